/-! The reference's calls that only read: what it keeps, and its earlier states, are as before. -/
/-- between two calls: it keeps N0, and u earlier states H 0, H 1 .. -/
def jKx (N0 : Nat → Int) (u : Nat) (H : Nat → Nat → Int) (tm er : Int) (S N B T : Nat → Int) : Prop := jK tm er S N B T ∧ (∀ j, j < 91 → N j = N0 j) ∧ S 2 = (u : Int) ∧ ∀ k : Nat, k < u → ∀ j, j < 91 → B ((u - 1 - k) * 91 + j) = H k j
def jIx (N0 : Nat → Int) (u : Nat) (H : Nat → Nat → Int) (tm er : Int) (T : Nat → Int) (h : mj_H) : Prop := ∃ S N B X V : Nat → Int, rS S N B T X V h ∧ jKx N0 u H tm er S N B T
def jItx (N0 : Nat → Int) (u : Nat) (H : Nat → Nat → Int) (c tm er : Int) (T : Nat → Int) (h : mj_H) : Prop := ∃ S N B X V : Nat → Int, rS S N B T X V h ∧ jKx N0 u H tm er S N B T ∧ S 3 = c
def rIx (N0 : Nat → Int) (u : Nat) (H : Nat → Nat → Int) (tm er : Int) (T : Nat → Int) (r : mj_R) : Prop := ∃ (z : Int) (h' : mj_H), jr z ∧ r = (.inl (some (.int (jn z))), h') ∧ jIx N0 u H tm er T h'
def rJx (N0 : Nat → Int) (u : Nat) (H : Nat → Nat → Int) (tm er : Int) (T : Nat → Int) (r : mj_R) : Prop := ∃ (z : Int) (h' : mj_H), r = (.inl (some (.long (jl z))), h') ∧ jIx N0 u H tm er T h'
def rDx (N0 : Nat → Int) (u : Nat) (H : Nat → Nat → Int) (tm er : Int) (T : Nat → Int) (r : mj_R) : Prop := ∃ (z : UInt64) (h' : mj_H), r = (.inl (some (.double z)), h') ∧ jIx N0 u H tm er T h'
def rEx (N0 : Nat → Int) (u : Nat) (H : Nat → Nat → Int) (tm er : Int) (T : Nat → Int) (r : mj_R) : Prop := ∃ (z : UInt32) (h' : mj_H), r = (.inl (some (.float z)), h') ∧ jIx N0 u H tm er T h'
section JKX
variable {N0 : Nat → Int} {u : Nat} {H : Nat → Nat → Int} {tm er : Int} {S N B T : Nat → Int}
theorem jKx.put (K : jKx N0 u H tm er S N B T) {k : Nat} {v : Int} (hv : jr v) (h2 : k ≠ 2) (h9 : k ≠ 9) (h12 : k ≠ 12) (h15 : k ≠ 15) (h13 : k ≠ 13) : jKx N0 u H tm er (jvu S k v) N B T := ⟨K.1.put hv h2 h9 h12 h15 h13, K.2.1, (jvu_ne _ _ _ (Ne.symm h2)).trans K.2.2.1, K.2.2.2⟩
theorem jKx.nR (K : jKx N0 u H tm er S N B T) : ∀ j, j < 78 → jR (N j) := K.1.nR
theorem jKx.sh (K : jKx N0 u H tm er S N B T) {r e : Nat} (hr : r ≤ 5) (he : e < 13) : (N (r * 13 + e)).natAbs ≤ 10 ^ 18 := K.1.sh hr he
theorem jKx.clear (K : jKx N0 u H tm er S N B T) : jKx N0 u H 0 er (jvu S 9 0) N B T := ⟨K.1.clear, K.2.1, (jvu_ne _ _ _ (by decide)).trans K.2.2.1, K.2.2.2⟩
theorem jKx.put15 (K : jKx N0 u H tm er S N B T) {w : Nat} (hw : w ≤ 600) : jKx N0 u H tm er (jvu S 15 (w : Int)) N B T := ⟨K.1.put15 hw, K.2.1, (jvu_ne _ _ _ (by decide)).trans K.2.2.1, K.2.2.2⟩
theorem jKx.text (K : jKx N0 u H tm er S N B T) {n : Nat} {T2 : Nat → Int} (hn : n ≤ 200) (hT : ∀ j : Nat, j < n → 1 ≤ T2 j ∧ T2 j ≤ 255) : jKx N0 u H n er (jvu S 9 (n : Int)) N B T2 := ⟨K.1.text hn hT, K.2.1, (jvu_ne _ _ _ (by decide)).trans K.2.2.1, K.2.2.2⟩
theorem jItx.to {c : Int} {h : mj_H} (k : jItx N0 u H c tm er T h) : jIx N0 u H tm er T h := by
  obtain ⟨S, N, B, X, V, h1, h2, _⟩ := k
  exact ⟨S, N, B, X, V, h1, h2⟩
end JKX
section RPX
variable {h : mj_H} {tm er : Int} {T : Nat → Int} {N0 : Nat → Int} {u0 : Nat} {H : Nat → Nat → Int}
theorem rx_degree {x : Int} (hx : jr x) (hI : jIx N0 u0 H tm er T h) : mj_Ok 40 253 [.ref 0, .int (jn x)] h (rIx N0 u0 H tm er T) := by
  refine mj_Ok.of (M := mj_m253) rfl rfl rfl ?_
  obtain ⟨S, N, B, X, V, hs, K⟩ := hI
  iterate 2 refine mj_T.pl rfl rfl rfl rfl ?_
  refine rT_put (v := 0) hs rfl rfl (by decide) rfl (fun g8 hs8 => ?_)
  have K8 := K.put (k := 3) (v := 0) ⟨by decide, by decide⟩ (by decide) (by decide) (by decide) (by decide) (by decide)
  generalize jvu S 3 0 = S8 at hs8 K8
  refine mj_T.pl rfl rfl rfl rfl ?_
  refine mj_T.call (ins := .invokestatic 181) rfl rfl (Nat.le_of_ble_eq_true rfl) (Nat.le_of_ble_eq_true rfl) rfl rfl (mj_Ok.up (by decide) (rp_isRegister (D := 0) hx)) (fun v' h' hq' => ?_) (fun i h' hq' => by rcases hq' with ⟨_, _, h⟩ | ⟨_, h⟩ <;> cases h)
  rcases hq' with ⟨x1, x2, hq'⟩ | ⟨_, hq'⟩
  case' inr =>
    cases hq'
    refine mj_T.if0 (a := 0) rfl ⟨by decide, by decide⟩ (fun hc => ?_) (fun hc => ?_)
    rotate_left
    · simp [jc] at hc
    iterate 2 refine mj_T.pl rfl rfl rfl rfl ?_
    refine mj_T.call (ins := .invokevirtual 198) rfl rfl (Nat.le_of_ble_eq_true rfl) (Nat.le_of_ble_eq_true rfl) (by simp [mj_recv, rS_f hs8]) rfl (mj_Ok.up (by decide) (rp_fails (D := 0) (c := 1) hs8)) (fun v' g9 hq' => ?_) (fun i h' hq' => by obtain ⟨_, _, h⟩ := hq'; cases h)
    obtain ⟨_, hs9, hq'⟩ := hq'
    cases hq'
    exact mj_T.ret rfl rfl rfl ⟨0, g9, ⟨by decide, by decide⟩, rfl, ⟨_, N, B, X, V, hs9, K8.put ⟨by decide, by decide⟩ (by decide) (by decide) (by decide) (by decide) (by decide)⟩⟩
  cases hq'
  refine mj_T.if0 (a := 1) rfl ⟨by decide, by decide⟩ (fun hc => ?_) (fun hc => ?_)
  · simp [jc] at hc
  obtain ⟨x, rfl⟩ := Int.eq_ofNat_of_zero_le x1
  have hd := jdg_le N x 13
  iterate 2 refine mj_T.pl rfl rfl rfl rfl ?_
  refine mj_T.call (ins := .invokevirtual 185) rfl rfl (Nat.le_of_ble_eq_true rfl) (Nat.le_of_ble_eq_true rfl) (by simp [mj_recv, rS_f hs8]) rfl (mj_Ok.up (by decide) (rp_degreeIn (D := 0) (r := x) (by omega) K8.nR hs8)) (fun v' h' hq' => ?_) (fun i h' hq' => by cases hq')
  cases hq'
  refine mj_T.pl rfl rfl rfl rfl ?_
  exact mj_T.ret rfl rfl rfl ⟨_, g8, ⟨by omega, by omega⟩, rfl, ⟨S8, N, B, X, V, hs8, K8⟩⟩
theorem rx_terms {x : Int} (hx : jr x) (hI : jIx N0 u0 H tm er T h) : mj_Ok 40 255 [.ref 0, .int (jn x)] h (rIx N0 u0 H tm er T) := by
  refine mj_Ok.of (M := mj_m255) rfl rfl rfl ?_
  obtain ⟨S, N, B, X, V, hs, K⟩ := hI
  iterate 2 refine mj_T.pl rfl rfl rfl rfl ?_
  refine rT_put (v := 0) hs rfl rfl (by decide) rfl (fun g10 hs10 => ?_)
  have K10 := K.put (k := 3) (v := 0) ⟨by decide, by decide⟩ (by decide) (by decide) (by decide) (by decide) (by decide)
  generalize jvu S 3 0 = S10 at hs10 K10
  refine mj_T.pl rfl rfl rfl rfl ?_
  refine mj_T.call (ins := .invokestatic 181) rfl rfl (Nat.le_of_ble_eq_true rfl) (Nat.le_of_ble_eq_true rfl) rfl rfl (mj_Ok.up (by decide) (rp_isRegister (D := 0) hx)) (fun v' h' hq' => ?_) (fun i h' hq' => by rcases hq' with ⟨_, _, h⟩ | ⟨_, h⟩ <;> cases h)
  rcases hq' with ⟨x1, x2, hq'⟩ | ⟨_, hq'⟩
  case' inr =>
    cases hq'
    refine mj_T.if0 (a := 0) rfl ⟨by decide, by decide⟩ (fun hc => ?_) (fun hc => ?_)
    rotate_left
    · simp [jc] at hc
    iterate 2 refine mj_T.pl rfl rfl rfl rfl ?_
    refine mj_T.call (ins := .invokevirtual 198) rfl rfl (Nat.le_of_ble_eq_true rfl) (Nat.le_of_ble_eq_true rfl) (by simp [mj_recv, rS_f hs10]) rfl (mj_Ok.up (by decide) (rp_fails (D := 0) (c := 1) hs10)) (fun v' g11 hq' => ?_) (fun i h' hq' => by obtain ⟨_, _, h⟩ := hq'; cases h)
    obtain ⟨_, hs11, hq'⟩ := hq'
    cases hq'
    exact mj_T.ret rfl rfl rfl ⟨0, g11, ⟨by decide, by decide⟩, rfl, ⟨_, N, B, X, V, hs11, K10.put ⟨by decide, by decide⟩ (by decide) (by decide) (by decide) (by decide) (by decide)⟩⟩
  cases hq'
  refine mj_T.if0 (a := 1) rfl ⟨by decide, by decide⟩ (fun hc => ?_) (fun hc => ?_)
  · simp [jc] at hc
  obtain ⟨x, rfl⟩ := Int.eq_ofNat_of_zero_le x1
  have hd := rtm_le N x 13
  iterate 2 refine mj_T.pl rfl rfl rfl rfl ?_
  refine mj_T.call (ins := .invokevirtual 292) rfl rfl (Nat.le_of_ble_eq_true rfl) (Nat.le_of_ble_eq_true rfl) (by simp [mj_recv, rS_f hs10]) rfl (mj_Ok.up (by decide) (rp_termsOf (D := 0) (r := x) (by omega) K10.nR hs10)) (fun v' h' hq' => ?_) (fun i h' hq' => by cases hq')
  cases hq'
  refine mj_T.pl rfl rfl rfl rfl ?_
  exact mj_T.ret rfl rfl rfl ⟨_, g10, ⟨by omega, by omega⟩, rfl, ⟨S10, N, B, X, V, hs10, K10⟩⟩
theorem rx_coefficient {x y : Int} (hx : jr x) (hy : jr y) (hI : jIx N0 u0 H tm er T h) : mj_Ok 40 257 [.ref 0, .int (jn x), .int (jn y)] h (rIx N0 u0 H tm er T) := by
  refine mj_Ok.of (M := mj_m257) rfl rfl rfl ?_
  obtain ⟨S, N, B, X, V, hs, K⟩ := hI
  iterate 2 refine mj_T.pl rfl rfl rfl rfl ?_
  refine rT_put (v := 0) hs rfl rfl (by decide) rfl (fun g12 hs12 => ?_)
  have K12 := K.put (k := 3) (v := 0) ⟨by decide, by decide⟩ (by decide) (by decide) (by decide) (by decide) (by decide)
  generalize jvu S 3 0 = S12 at hs12 K12
  refine mj_T.pl rfl rfl rfl rfl ?_
  refine mj_T.call (ins := .invokestatic 181) rfl rfl (Nat.le_of_ble_eq_true rfl) (Nat.le_of_ble_eq_true rfl) rfl rfl (mj_Ok.up (by decide) (rp_isRegister (D := 0) hx)) (fun v' h' hq' => ?_) (fun i h' hq' => by rcases hq' with ⟨_, _, h⟩ | ⟨_, h⟩ <;> cases h)
  rcases hq' with ⟨x1, x2, hq'⟩ | ⟨_, hq'⟩
  case' inr =>
    cases hq'
    refine mj_T.if0 (a := 0) rfl ⟨by decide, by decide⟩ (fun hc => ?_) (fun hc => ?_)
    · simp [jc] at hc
    iterate 2 refine mj_T.pl rfl rfl rfl rfl ?_
    refine mj_T.call (ins := .invokevirtual 198) rfl rfl (Nat.le_of_ble_eq_true rfl) (Nat.le_of_ble_eq_true rfl) (by simp [mj_recv, rS_f hs12]) rfl (mj_Ok.up (by decide) (rp_fails (D := 0) (c := 1) hs12)) (fun v' g13 hq' => ?_) (fun i h' hq' => by obtain ⟨_, _, h⟩ := hq'; cases h)
    obtain ⟨_, hs13, hq'⟩ := hq'
    cases hq'
    exact mj_T.ret rfl rfl rfl ⟨0, g13, ⟨by decide, by decide⟩, rfl, ⟨_, N, B, X, V, hs13, K12.put ⟨by decide, by decide⟩ (by decide) (by decide) (by decide) (by decide) (by decide)⟩⟩
  cases hq'
  refine mj_T.if0 (a := 1) rfl ⟨by decide, by decide⟩ (fun hc => ?_) (fun hc => ?_)
  rotate_left
  · simp [jc] at hc
  obtain ⟨x, rfl⟩ := Int.eq_ofNat_of_zero_le x1
  refine mj_T.pl rfl rfl rfl rfl ?_
  refine mj_T.i2l rfl hy ?_
  iterate 2 refine mj_T.pl rfl rfl rfl rfl ?_
  refine mj_T.call (ins := .invokestatic 177) rfl rfl (Nat.le_of_ble_eq_true rfl) (Nat.le_of_ble_eq_true rfl) rfl rfl (mj_Ok.up (by decide) (rp_in (D := 0) (v := y) (lo := 0) (hi := 12) ⟨by have := hy.1; omega, by have := hy.2; omega⟩ ⟨by decide, by decide⟩ ⟨by decide, by decide⟩)) (fun v' h' hq' => ?_) (fun i h' hq' => by rcases hq' with ⟨_, _, h⟩ | ⟨_, h⟩ <;> cases h)
  rcases hq' with ⟨r14a, r14b, hq'⟩ | ⟨_, hq'⟩
  case' inr =>
    cases hq'
    refine mj_T.if0 (a := 0) rfl ⟨by decide, by decide⟩ (fun hc => ?_) (fun hc => ?_)
    · simp [jc] at hc
    iterate 2 refine mj_T.pl rfl rfl rfl rfl ?_
    refine mj_T.call (ins := .invokevirtual 198) rfl rfl (Nat.le_of_ble_eq_true rfl) (Nat.le_of_ble_eq_true rfl) (by simp [mj_recv, rS_f hs12]) rfl (mj_Ok.up (by decide) (rp_fails (D := 0) (c := 2) hs12)) (fun v' g15 hq' => ?_) (fun i h' hq' => by obtain ⟨_, _, h⟩ := hq'; cases h)
    obtain ⟨_, hs15, hq'⟩ := hq'
    cases hq'
    exact mj_T.ret rfl rfl rfl ⟨0, g15, ⟨by decide, by decide⟩, rfl, ⟨_, N, B, X, V, hs15, K12.put ⟨by decide, by decide⟩ (by decide) (by decide) (by decide) (by decide) (by decide)⟩⟩
  cases hq'
  refine mj_T.if0 (a := 1) rfl ⟨by decide, by decide⟩ (fun hc => ?_) (fun hc => ?_)
  rotate_left
  · simp [jc] at hc
  obtain ⟨y, rfl⟩ := Int.eq_ofNat_of_zero_le r14a
  iterate 2 refine mj_T.pl rfl rfl rfl rfl ?_
  refine mj_T.pl rfl rfl rfl rfl ?_
  refine rT_get hs12 rfl rfl ?_
  iterate 2 refine mj_T.pl rfl rfl rfl rfl ?_
  refine mj_T.imul (a := (x : Int)) (b := 13) rfl ?_
  refine mj_T.pl rfl rfl rfl rfl ?_
  refine mj_T.iadd rfl ?_
  rw [show (x : Int) * 13 + (y : Int) = ((x * 13 + y : Nat) : Int) by omega]
  refine rT_ldN hs12 rfl ⟨by omega, by omega⟩ ?_
  rw [Int.toNat_natCast]
  refine mj_T.call (ins := .invokevirtual 45) rfl rfl (Nat.le_of_ble_eq_true rfl) (Nat.le_of_ble_eq_true rfl) (by simp [mj_recv, rS_f hs12]) rfl (mj_Ok.up (by decide) (jS_sets (D := 0) (rG S12 N B T X) (s := 652) (v := N (x * 13 + y)) (by decide) (K12.nR _ (by omega)) hs12)) (fun v' g16 hq' => ?_) (fun i h' hq' => by obtain ⟨_, _, h⟩ := hq'; cases h)
  obtain ⟨_, hs16, hq'⟩ := hq'
  cases hq'
  iterate 2 refine mj_T.pl rfl rfl rfl rfl ?_
  refine mj_T.call (ins := .invokevirtual 295) rfl rfl (Nat.le_of_ble_eq_true rfl) (Nat.le_of_ble_eq_true rfl) (by simp [mj_recv, rS_f hs16]) rfl (mj_Ok.up (by decide) (rp_tellsWhole (D := 0) (s := 652) (by decide) hs16)) (fun v' g17 hq' => ?_) (fun i h' hq' => by obtain ⟨_, _, _, _, _, h⟩ := hq'; cases h)
  obtain ⟨W17, z17, _, hs17, hz17, hq'⟩ := hq'
  cases hq'
  exact mj_T.ret rfl rfl rfl ⟨_, g17, hz17, rfl, ⟨S12, N, B, X, W17, hs17, K12⟩⟩
theorem rx_content {x : Int} (hx : jr x) (hI : jIx N0 u0 H tm er T h) : mj_Ok 40 258 [.ref 0, .int (jn x)] h (rIx N0 u0 H tm er T) := by
  refine mj_Ok.of (M := mj_m258) rfl rfl rfl ?_
  obtain ⟨S, N, B, X, V, hs, K⟩ := hI
  iterate 2 refine mj_T.pl rfl rfl rfl rfl ?_
  refine rT_put (v := 0) hs rfl rfl (by decide) rfl (fun g18 hs18 => ?_)
  have K18 := K.put (k := 3) (v := 0) ⟨by decide, by decide⟩ (by decide) (by decide) (by decide) (by decide) (by decide)
  generalize jvu S 3 0 = S18 at hs18 K18
  refine mj_T.pl rfl rfl rfl rfl ?_
  refine mj_T.call (ins := .invokestatic 181) rfl rfl (Nat.le_of_ble_eq_true rfl) (Nat.le_of_ble_eq_true rfl) rfl rfl (mj_Ok.up (by decide) (rp_isRegister (D := 0) hx)) (fun v' h' hq' => ?_) (fun i h' hq' => by rcases hq' with ⟨_, _, h⟩ | ⟨_, h⟩ <;> cases h)
  rcases hq' with ⟨x1, x2, hq'⟩ | ⟨_, hq'⟩
  case' inr =>
    cases hq'
    refine mj_T.if0 (a := 0) rfl ⟨by decide, by decide⟩ (fun hc => ?_) (fun hc => ?_)
    · simp [jc] at hc
    iterate 2 refine mj_T.pl rfl rfl rfl rfl ?_
    refine mj_T.call (ins := .invokevirtual 198) rfl rfl (Nat.le_of_ble_eq_true rfl) (Nat.le_of_ble_eq_true rfl) (by simp [mj_recv, rS_f hs18]) rfl (mj_Ok.up (by decide) (rp_fails (D := 0) (c := 1) hs18)) (fun v' g19 hq' => ?_) (fun i h' hq' => by obtain ⟨_, _, h⟩ := hq'; cases h)
    obtain ⟨_, hs19, hq'⟩ := hq'
    cases hq'
    exact mj_T.ret rfl rfl rfl ⟨0, g19, ⟨by decide, by decide⟩, rfl, ⟨_, N, B, X, V, hs19, K18.put ⟨by decide, by decide⟩ (by decide) (by decide) (by decide) (by decide) (by decide)⟩⟩
  cases hq'
  refine mj_T.if0 (a := 1) rfl ⟨by decide, by decide⟩ (fun hc => ?_) (fun hc => ?_)
  rotate_left
  · simp [jc] at hc
  obtain ⟨x, rfl⟩ := Int.eq_ofNat_of_zero_le x1
  iterate 3 refine mj_T.pl rfl rfl rfl rfl ?_
  refine mj_T.call (ins := .invokevirtual 213) rfl rfl (Nat.le_of_ble_eq_true rfl) (Nat.le_of_ble_eq_true rfl) (by simp [mj_recv, rS_f hs18]) rfl (mj_Ok.up (by decide) (rp_loads (D := 0) (p := 0) (r := x) (by decide) (by omega) K18.nR hs18)) (fun v' g20 hq' => ?_) (fun i h' hq' => by obtain ⟨_, _, h⟩ := hq'; cases h)
  obtain ⟨_, hs20, hq'⟩ := hq'
  cases hq'
  have a20 : ∀ e, e < 13 → jfl V 0 (fun e => N (x * 13 + e)) 13 (0 * 13 + e) = N (x * 13 + e) := fun e he => jfl_at _ _ _ he
  have b20 : ∀ s, (s < 0 * 13 ∨ 0 * 13 + 13 ≤ s) → jfl V 0 (fun e => N (x * 13 + e)) 13 s = V s := fun s hc => jfl_off _ _ _ hc
  generalize jfl V 0 (fun e => N (x * 13 + e)) 13 = W20 at hs20 a20 b20
  iterate 3 refine mj_T.pl rfl rfl rfl rfl ?_
  refine mj_T.call (ins := .invokevirtual 130) rfl rfl (Nat.le_of_ble_eq_true rfl) (Nat.le_of_ble_eq_true rfl) (by simp [mj_recv, rS_f hs20]) rfl (mj_Ok.up (by decide) (jp_contents (D := 0) (rG S18 N B T X) (to := 661) (p := 0) (by decide) (by decide) (by decide) (by decide) (by decide) (by decide) (by decide) hs20)) (fun v' g21 hq' => ?_) (fun i h' hq' => by obtain ⟨_, _, _, _, _, h⟩ := hq'; cases h)
  obtain ⟨W21, _, hs21, _, _, hq'⟩ := hq'
  cases hq'
  iterate 2 refine mj_T.pl rfl rfl rfl rfl ?_
  refine mj_T.call (ins := .invokevirtual 295) rfl rfl (Nat.le_of_ble_eq_true rfl) (Nat.le_of_ble_eq_true rfl) (by simp [mj_recv, rS_f hs21]) rfl (mj_Ok.up (by decide) (rp_tellsWhole (D := 0) (s := 661) (by decide) hs21)) (fun v' g22 hq' => ?_) (fun i h' hq' => by obtain ⟨_, _, _, _, _, h⟩ := hq'; cases h)
  obtain ⟨W22, z22, _, hs22, hz22, hq'⟩ := hq'
  cases hq'
  exact mj_T.ret rfl rfl rfl ⟨_, g22, hz22, rfl, ⟨S18, N, B, X, W22, hs22, K18⟩⟩
theorem rx_value {x y z : Int} (hx : jr x) (hy : jr y) (hz : jr z) (hI : jIx N0 u0 H tm er T h) : mj_Ok 40 261 [.ref 0, .int (jn x), .int (jn y), .int (jn z)] h (rIx N0 u0 H tm er T) := by
  refine mj_Ok.of (M := mj_m261) rfl rfl rfl ?_
  obtain ⟨S, N, B, X, V, hs, K⟩ := hI
  iterate 2 refine mj_T.pl rfl rfl rfl rfl ?_
  refine rT_put (v := 0) hs rfl rfl (by decide) rfl (fun g23 hs23 => ?_)
  have K23 := K.put (k := 3) (v := 0) ⟨by decide, by decide⟩ (by decide) (by decide) (by decide) (by decide) (by decide)
  generalize jvu S 3 0 = S23 at hs23 K23
  refine mj_T.pl rfl rfl rfl rfl ?_
  refine mj_T.call (ins := .invokestatic 181) rfl rfl (Nat.le_of_ble_eq_true rfl) (Nat.le_of_ble_eq_true rfl) rfl rfl (mj_Ok.up (by decide) (rp_isRegister (D := 0) hx)) (fun v' h' hq' => ?_) (fun i h' hq' => by rcases hq' with ⟨_, _, h⟩ | ⟨_, h⟩ <;> cases h)
  rcases hq' with ⟨x1, x2, hq'⟩ | ⟨_, hq'⟩
  case' inr =>
    cases hq'
    refine mj_T.if0 (a := 0) rfl ⟨by decide, by decide⟩ (fun hc => ?_) (fun hc => ?_)
    · simp [jc] at hc
    iterate 2 refine mj_T.pl rfl rfl rfl rfl ?_
    refine mj_T.call (ins := .invokevirtual 198) rfl rfl (Nat.le_of_ble_eq_true rfl) (Nat.le_of_ble_eq_true rfl) (by simp [mj_recv, rS_f hs23]) rfl (mj_Ok.up (by decide) (rp_fails (D := 0) (c := 1) hs23)) (fun v' g24 hq' => ?_) (fun i h' hq' => by obtain ⟨_, _, h⟩ := hq'; cases h)
    obtain ⟨_, hs24, hq'⟩ := hq'
    cases hq'
    exact mj_T.ret rfl rfl rfl ⟨0, g24, ⟨by decide, by decide⟩, rfl, ⟨_, N, B, X, V, hs24, K23.put ⟨by decide, by decide⟩ (by decide) (by decide) (by decide) (by decide) (by decide)⟩⟩
  cases hq'
  refine mj_T.if0 (a := 1) rfl ⟨by decide, by decide⟩ (fun hc => ?_) (fun hc => ?_)
  rotate_left
  · simp [jc] at hc
  obtain ⟨x, rfl⟩ := Int.eq_ofNat_of_zero_le x1
  iterate 2 refine mj_T.pl rfl rfl rfl rfl ?_
  refine mj_T.call (ins := .invokestatic 302) rfl rfl (Nat.le_of_ble_eq_true rfl) (Nat.le_of_ble_eq_true rfl) rfl rfl (mj_Ok.up (by decide) (rp_isFraction hy hz)) (fun v' h' hq' => ?_) (fun i h' hq' => by rcases hq' with ⟨_, _, h⟩ | ⟨_, h⟩ <;> cases h)
  rcases hq' with ⟨⟨y1, y2⟩, ⟨z1, z2⟩, hq'⟩ | ⟨_, hq'⟩
  case' inr =>
    cases hq'
    refine mj_T.if0 (a := 0) rfl ⟨by decide, by decide⟩ (fun hc => ?_) (fun hc => ?_)
    · simp [jc] at hc
    iterate 2 refine mj_T.pl rfl rfl rfl rfl ?_
    refine mj_T.call (ins := .invokevirtual 198) rfl rfl (Nat.le_of_ble_eq_true rfl) (Nat.le_of_ble_eq_true rfl) (by simp [mj_recv, rS_f hs23]) rfl (mj_Ok.up (by decide) (rp_fails (D := 0) (c := 2) hs23)) (fun v' g25 hq' => ?_) (fun i h' hq' => by obtain ⟨_, _, h⟩ := hq'; cases h)
    obtain ⟨_, hs25, hq'⟩ := hq'
    cases hq'
    exact mj_T.ret rfl rfl rfl ⟨0, g25, ⟨by decide, by decide⟩, rfl, ⟨_, N, B, X, V, hs25, K23.put ⟨by decide, by decide⟩ (by decide) (by decide) (by decide) (by decide) (by decide)⟩⟩
  cases hq'
  refine mj_T.if0 (a := 1) rfl ⟨by decide, by decide⟩ (fun hc => ?_) (fun hc => ?_)
  rotate_left
  · simp [jc] at hc
  iterate 3 refine mj_T.pl rfl rfl rfl rfl ?_
  refine mj_T.call (ins := .invokevirtual 213) rfl rfl (Nat.le_of_ble_eq_true rfl) (Nat.le_of_ble_eq_true rfl) (by simp [mj_recv, rS_f hs23]) rfl (mj_Ok.up (by decide) (rp_loads (D := 0) (p := 0) (r := x) (by decide) (by omega) K23.nR hs23)) (fun v' g26 hq' => ?_) (fun i h' hq' => by obtain ⟨_, _, h⟩ := hq'; cases h)
  obtain ⟨_, hs26, hq'⟩ := hq'
  cases hq'
  have a26 : ∀ e, e < 13 → jfl V 0 (fun e => N (x * 13 + e)) 13 (0 * 13 + e) = N (x * 13 + e) := fun e he => jfl_at _ _ _ he
  have b26 : ∀ s, (s < 0 * 13 ∨ 0 * 13 + 13 ≤ s) → jfl V 0 (fun e => N (x * 13 + e)) 13 s = V s := fun s hc => jfl_off _ _ _ hc
  generalize jfl V 0 (fun e => N (x * 13 + e)) 13 = W26 at hs26 a26 b26
  have c1 : ∀ e, e < 13 → (W26 (0 * 13 + e)).natAbs ≤ 10 ^ 18 := fun e he => by
    rw [a26 e he]
    exact K23.sh (r := x) (by omega) he
  iterate 3 refine mj_T.pl rfl rfl rfl rfl ?_
  refine mj_T.call (ins := .invokevirtual 305) rfl rfl (Nat.le_of_ble_eq_true rfl) (Nat.le_of_ble_eq_true rfl) (by simp [mj_recv, rS_f hs26]) rfl (mj_Ok.up (by decide) (rp_setsFraction (D := 0) (x := y) (y := z) hy hz hs26)) (fun v' g27 hq' => ?_) (fun i h' hq' => by obtain ⟨_, _, _, _, _, _, h⟩ := hq'; cases h)
  obtain ⟨W27, _, hs27, x27a, x27b, x27c, hq'⟩ := hq'
  cases hq'
  iterate 2 refine mj_T.pl rfl rfl rfl rfl ?_
  refine mj_T.call (ins := .invokevirtual 162) rfl rfl (Nat.le_of_ble_eq_true rfl) (Nat.le_of_ble_eq_true rfl) (by simp [mj_recv, rS_f hs27]) rfl (mj_Ok.up (by decide) (jp_valueAt (D := 0) (V := W27) (p := 0) (rG S23 N B T X) (by decide) (C := 10 ^ 18) (x := 1000) (fun e he => by rw [x27c _ (by omega) (by omega)]; exact c1 e he) (by rw [x27a]; omega) (by rw [x27b]; omega) (by decide) rp_fitv rp_fitv2 hs27)) (fun v' g28 hq' => ?_) (fun i h' hq' => by obtain ⟨_, _, _, _, _, _, _, h⟩ := hq'; cases h)
  obtain ⟨W28, _, hs28, _, _, _, f0, hq'⟩ := hq'
  cases hq'
  iterate 4 refine mj_T.pl rfl rfl rfl rfl ?_
  refine mj_T.call (ins := .invokevirtual 308) rfl rfl (Nat.le_of_ble_eq_true rfl) (Nat.le_of_ble_eq_true rfl) (by simp [mj_recv, rS_f hs28]) rfl (mj_Ok.up (by decide) (jp_tells (D := 0) (rG S23 N B T X) (i := 659) (j := 660) (by decide) (by decide) (by decide) (by decide) (f0 (by rw [x27b]; omega)) hs28)) (fun v' g29 hq' => ?_) (fun i h' hq' => by obtain ⟨_, _, _, _, _, _, h⟩ := hq'; cases h)
  obtain ⟨W29, _, hs29, _, _, _, hq'⟩ := hq'
  cases hq'
  have hsr := jsg_range (W29 650)
  exact mj_T.ret rfl rfl rfl ⟨_, g29, ⟨by omega, by omega⟩, rfl, ⟨S23, N, B, X, W29, hs29, K23⟩⟩
theorem rx_exponent {x y : Int} (hx : jr x) (hy : jr y) (hI : jIx N0 u0 H tm er T h) : mj_Ok 40 256 [.ref 0, .int (jn x), .int (jn y)] h (rIx N0 u0 H tm er T) := by
  refine mj_Ok.of (M := mj_m256) rfl rfl rfl ?_
  obtain ⟨S, N, B, X, V, hs, K⟩ := hI
  iterate 2 refine mj_T.pl rfl rfl rfl rfl ?_
  refine rT_put (v := 0) hs rfl rfl (by decide) rfl (fun g1 hs1 => ?_)
  have K1 := K.put (k := 3) (v := 0) ⟨by decide, by decide⟩ (by decide) (by decide) (by decide) (by decide) (by decide)
  generalize jvu S 3 0 = S1 at hs1 K1
  have t29 : mj_T 39 mj_m256 29 [some (.ref 0), some (.int (jn x)), some (.int (jn y)), none, none] [] g1 (rIx N0 u0 H tm er T) := by
    iterate 2 refine mj_T.pl rfl rfl rfl rfl ?_
    refine mj_T.call (ins := .invokevirtual 198) rfl rfl (Nat.le_of_ble_eq_true rfl) (Nat.le_of_ble_eq_true rfl) (by simp [mj_recv, rS_f hs1]) rfl (mj_Ok.up (by decide) (rp_fails (D := 0) (c := 1) hs1)) (fun v' g2 hq' => ?_) (fun i h' hq' => by obtain ⟨_, _, h⟩ := hq'; cases h)
    obtain ⟨_, hs2, hq'⟩ := hq'
    cases hq'
    exact mj_T.ret rfl rfl rfl ⟨0, g2, ⟨by decide, by decide⟩, rfl, ⟨_, N, B, X, V, hs2, K1.put ⟨by decide, by decide⟩ (by decide) (by decide) (by decide) (by decide) (by decide)⟩⟩
  refine mj_T.pl rfl rfl rfl rfl ?_
  refine mj_T.call (ins := .invokestatic 181) rfl rfl (Nat.le_of_ble_eq_true rfl) (Nat.le_of_ble_eq_true rfl) rfl rfl (mj_Ok.up (by decide) (rp_isRegister (D := 0) hx)) (fun v' h' hq' => ?_) (fun i h' hq' => by rcases hq' with ⟨_, _, h⟩ | ⟨_, h⟩ <;> cases h)
  rcases hq' with ⟨x1, x2, hq'⟩ | ⟨_, hq'⟩
  case' inr =>
    cases hq'
    refine mj_T.if0 (a := 0) rfl ⟨by decide, by decide⟩ (fun hc => ?_) (fun hc => ?_)
    · exact t29
    · simp [jc] at hc
  cases hq'
  refine mj_T.if0 (a := 1) rfl ⟨by decide, by decide⟩ (fun hc => ?_) (fun hc => ?_)
  · simp [jc] at hc
  obtain ⟨x, rfl⟩ := Int.eq_ofNat_of_zero_le x1
  have hrt := rtm_le N x 13
  refine mj_T.pl rfl rfl rfl rfl ?_
  refine mj_T.i2l rfl hy ?_
  iterate 3 refine mj_T.pl rfl rfl rfl rfl ?_
  refine mj_T.call (ins := .invokevirtual 292) rfl rfl (Nat.le_of_ble_eq_true rfl) (Nat.le_of_ble_eq_true rfl) (by simp [mj_recv, rS_f hs1]) rfl (mj_Ok.up (by decide) (rp_termsOf (D := 0) (r := x) (by omega) K1.nR hs1)) (fun v' h' hq' => ?_) (fun i h' hq' => by cases hq')
  cases hq'
  refine mj_T.pl rfl rfl rfl rfl ?_
  refine mj_T.isub (a := ((rtm N x 13 : Nat) : Int)) (b := 1) rfl ?_
  refine mj_T.i2l rfl ⟨by omega, by omega⟩ ?_
  refine mj_T.call (ins := .invokestatic 177) rfl rfl (Nat.le_of_ble_eq_true rfl) (Nat.le_of_ble_eq_true rfl) rfl rfl (mj_Ok.up (by decide) (rp_in (D := 0) (v := y) (lo := 0) (hi := ((rtm N x 13 : Nat) : Int) - 1) ⟨by have := hy.1; omega, by have := hy.2; omega⟩ ⟨by decide, by decide⟩ ⟨by omega, by omega⟩)) (fun v' h' hq' => ?_) (fun i h' hq' => by rcases hq' with ⟨_, _, h⟩ | ⟨_, h⟩ <;> cases h)
  rcases hq' with ⟨y1, y2, hq'⟩ | ⟨_, hq'⟩
  case' inr =>
    cases hq'
    refine mj_T.if0 (a := 0) rfl ⟨by decide, by decide⟩ (fun hc => ?_) (fun hc => ?_)
    · simp [jc] at hc
    · exact t29
  cases hq'
  refine mj_T.if0 (a := 1) rfl ⟨by decide, by decide⟩ (fun hc => ?_) (fun hc => ?_)
  rotate_left
  · simp [jc] at hc
  obtain ⟨y, rfl⟩ := Int.eq_ofNat_of_zero_le y1
  iterate 4 refine mj_T.pl rfl rfl rfl rfl ?_
  have fin := rp_ex_out (D := 39) (a := x) (t0 := (y : Int)) (by omega) K1.nR hs1 (Q := rIx N0 u0 H tm er T) (fun k hk => ⟨(k : Int), _, ⟨by omega, by omega⟩, rfl, ⟨_, _, _, _, _, hs1, K1⟩⟩) (y + 1) 13 (by omega) (by omega)
  rw [show ((y + 1 : Nat) : Int) - 1 = (y : Int) by omega] at fin
  exact fin
theorem rx_divides {x y : Int} (hx : jr x) (hy : jr y) (hI : jIx N0 u0 H tm er T h) : mj_Ok 40 262 [.ref 0, .int (jn x), .int (jn y)] h (rIx N0 u0 H tm er T) := by
  refine mj_Ok.of (M := mj_m262) rfl rfl rfl ?_
  obtain ⟨S, N, B, X, V, hs, K⟩ := hI
  have t19 : mj_T 39 mj_m262 19 [some (.ref 0), some (.int (jn x)), some (.int (jn y))] [.ref 0] h (rIx N0 u0 H tm er T) := by
    refine mj_T.pl rfl rfl rfl rfl ?_
    refine rT_put (v := 1) hs rfl rfl (by decide) rfl (fun g1 hs1 => ?_)
    refine mj_T.pl rfl rfl rfl rfl ?_
    refine rT_get (v := .int (jn 1)) hs1 rfl (by rw [← jvu_at S 3 1]; rfl) ?_
    refine mj_T.if0 (a := 1) rfl ⟨by decide, by decide⟩ (fun hc => ?_) (fun hc => ?_)
    · simp [jc] at hc
    refine mj_T.pl rfl rfl rfl rfl ?_
    exact mj_T.ret rfl rfl rfl ⟨0, g1, ⟨by decide, by decide⟩, rfl, ⟨_, N, B, X, V, hs1, K.put ⟨by decide, by decide⟩ (by decide) (by decide) (by decide) (by decide) (by decide)⟩⟩
  refine mj_T.pl rfl rfl rfl rfl ?_
  refine mj_T.pl rfl rfl rfl rfl ?_
  refine mj_T.call (ins := .invokestatic 181) rfl rfl (Nat.le_of_ble_eq_true rfl) (Nat.le_of_ble_eq_true rfl) rfl rfl (mj_Ok.up (by decide) (rp_isRegister (D := 0) hx)) (fun v' h' hq' => ?_) (fun i h' hq' => by rcases hq' with ⟨_, _, h⟩ | ⟨_, h⟩ <;> cases h)
  rcases hq' with ⟨x1, x2, hq'⟩ | ⟨_, hq'⟩
  case' inr =>
    cases hq'
    refine mj_T.if0 (a := 0) rfl ⟨by decide, by decide⟩ (fun hc => ?_) (fun hc => ?_)
    · exact t19
    · simp [jc] at hc
  cases hq'
  refine mj_T.if0 (a := 1) rfl ⟨by decide, by decide⟩ (fun hc => ?_) (fun hc => ?_)
  · simp [jc] at hc
  refine mj_T.pl rfl rfl rfl rfl ?_
  refine mj_T.call (ins := .invokestatic 181) rfl rfl (Nat.le_of_ble_eq_true rfl) (Nat.le_of_ble_eq_true rfl) rfl rfl (mj_Ok.up (by decide) (rp_isRegister (D := 0) hy)) (fun v' h' hq' => ?_) (fun i h' hq' => by rcases hq' with ⟨_, _, h⟩ | ⟨_, h⟩ <;> cases h)
  rcases hq' with ⟨y1, y2, hq'⟩ | ⟨_, hq'⟩
  case' inr =>
    cases hq'
    refine mj_T.if0 (a := 0) rfl ⟨by decide, by decide⟩ (fun hc => ?_) (fun hc => ?_)
    · exact t19
    · simp [jc] at hc
  cases hq'
  refine mj_T.if0 (a := 1) rfl ⟨by decide, by decide⟩ (fun hc => ?_) (fun hc => ?_)
  · simp [jc] at hc
  clear t19
  iterate 2 refine mj_T.pl rfl rfl rfl rfl ?_
  refine rT_put (v := 0) hs rfl rfl (by decide) rfl (fun g1 hs1 => ?_)
  have K1 := K.put (k := 3) (v := 0) ⟨by decide, by decide⟩ (by decide) (by decide) (by decide) (by decide) (by decide)
  refine mj_T.pl rfl rfl rfl rfl ?_
  refine rT_get (v := .int (jn 0)) hs1 rfl (by rw [← jvu_at S 3 0]; rfl) ?_
  generalize jvu S 3 0 = S1 at hs1 K1
  refine mj_T.if0 (a := 0) rfl ⟨by decide, by decide⟩ (fun hc => ?_) (fun hc => ?_)
  rotate_left
  · simp [jc] at hc
  obtain ⟨x, rfl⟩ := Int.eq_ofNat_of_zero_le x1
  obtain ⟨y, rfl⟩ := Int.eq_ofNat_of_zero_le y1
  have t48 : mj_T 39 mj_m262 48 [some (.ref 0), some (.int (jn (x : Int))), some (.int (jn (y : Int)))] [] g1 (rIx N0 u0 H tm er T) := by
    iterate 2 refine mj_T.pl rfl rfl rfl rfl ?_
    refine mj_T.call (ins := .invokevirtual 232) rfl rfl (Nat.le_of_ble_eq_true rfl) (Nat.le_of_ble_eq_true rfl) (by simp [mj_recv, rS_f hs1]) rfl (mj_Ok.up (by decide) (rp_isZero (D := 0) (r := y) (by omega) K1.nR hs1)) (fun v' h' hq' => ?_) (fun i h' hq' => by rcases hq' with ⟨_, h⟩ | ⟨_, h⟩ <;> cases h)
    rcases hq' with ⟨_, hq'⟩ | ⟨_, hq'⟩
    · cases hq'
      exact mj_T.ret rfl rfl rfl ⟨1, _, ⟨by decide, by decide⟩, rfl, ⟨_, _, _, _, _, hs1, K1⟩⟩
    · cases hq'
      exact mj_T.ret rfl rfl rfl ⟨0, _, ⟨by decide, by decide⟩, rfl, ⟨_, _, _, _, _, hs1, K1⟩⟩
  iterate 2 refine mj_T.pl rfl rfl rfl rfl ?_
  refine mj_T.call (ins := .invokevirtual 232) rfl rfl (Nat.le_of_ble_eq_true rfl) (Nat.le_of_ble_eq_true rfl) (by simp [mj_recv, rS_f hs1]) rfl (mj_Ok.up (by decide) (rp_isZero (D := 0) (r := x) (by omega) K1.nR hs1)) (fun v' h' hq' => ?_) (fun i h' hq' => by rcases hq' with ⟨_, h⟩ | ⟨_, h⟩ <;> cases h)
  rcases hq' with ⟨_, hq'⟩ | ⟨nzx, hq'⟩
  case' inl =>
    cases hq'
    refine mj_T.if0 (a := 1) rfl ⟨by decide, by decide⟩ (fun hc => ?_) (fun hc => ?_)
    · exact t48
    · simp [jc] at hc
  cases hq'
  refine mj_T.if0 (a := 0) rfl ⟨by decide, by decide⟩ (fun hc => ?_) (fun hc => ?_)
  · simp [jc] at hc
  iterate 2 refine mj_T.pl rfl rfl rfl rfl ?_
  refine mj_T.call (ins := .invokevirtual 232) rfl rfl (Nat.le_of_ble_eq_true rfl) (Nat.le_of_ble_eq_true rfl) (by simp [mj_recv, rS_f hs1]) rfl (mj_Ok.up (by decide) (rp_isZero (D := 0) (r := y) (by omega) K1.nR hs1)) (fun v' h' hq' => ?_) (fun i h' hq' => by rcases hq' with ⟨_, h⟩ | ⟨_, h⟩ <;> cases h)
  rcases hq' with ⟨_, hq'⟩ | ⟨nzy, hq'⟩
  case' inl =>
    cases hq'
    refine mj_T.if0 (a := 1) rfl ⟨by decide, by decide⟩ (fun hc => ?_) (fun hc => ?_)
    · simp [jc] at hc
    · exact t48
  cases hq'
  refine mj_T.if0 (a := 0) rfl ⟨by decide, by decide⟩ (fun hc => ?_) (fun hc => ?_)
  rotate_left
  · simp [jc] at hc
  clear t48
  iterate 3 refine mj_T.pl rfl rfl rfl rfl ?_
  refine mj_T.call (ins := .invokevirtual 213) rfl rfl (Nat.le_of_ble_eq_true rfl) (Nat.le_of_ble_eq_true rfl) (by simp [mj_recv, rS_f hs1]) rfl (mj_Ok.up (by decide) (rp_loads (D := 0) (p := 0) (r := x) (by decide) (by omega) K1.nR hs1)) (fun v' g3 hq' => ?_) (fun i h' hq' => by obtain ⟨_, _, h⟩ := hq'; cases h)
  obtain ⟨_, hs3, hq'⟩ := hq'
  cases hq'
  have a3 : ∀ e, e < 13 → jfl V 0 (fun e => N (x * 13 + e)) 13 (0 * 13 + e) = N (x * 13 + e) := fun e he => jfl_at _ _ _ he
  have b3 : ∀ s, (s < 0 * 13 ∨ 0 * 13 + 13 ≤ s) → jfl V 0 (fun e => N (x * 13 + e)) 13 s = V s := fun s hc => jfl_off _ _ _ hc
  generalize jfl V 0 (fun e => N (x * 13 + e)) 13 = W3 at hs3 a3 b3
  iterate 3 refine mj_T.pl rfl rfl rfl rfl ?_
  refine mj_T.call (ins := .invokevirtual 213) rfl rfl (Nat.le_of_ble_eq_true rfl) (Nat.le_of_ble_eq_true rfl) (by simp [mj_recv, rS_f hs3]) rfl (mj_Ok.up (by decide) (rp_loads (D := 0) (p := 1) (r := y) (by decide) (by omega) K1.nR hs3)) (fun v' g4 hq' => ?_) (fun i h' hq' => by obtain ⟨_, _, h⟩ := hq'; cases h)
  obtain ⟨_, hs4, hq'⟩ := hq'
  cases hq'
  have a4 : ∀ e, e < 13 → jfl W3 1 (fun e => N (y * 13 + e)) 13 (1 * 13 + e) = N (y * 13 + e) := fun e he => jfl_at _ _ _ he
  have b4 : ∀ s, (s < 1 * 13 ∨ 1 * 13 + 13 ≤ s) → jfl W3 1 (fun e => N (y * 13 + e)) 13 s = W3 s := fun s hc => jfl_off _ _ _ hc
  generalize jfl W3 1 (fun e => N (y * 13 + e)) 13 = W4 at hs4 a4 b4
  have c1 : ∀ e, e < 13 → (W4 (0 * 13 + e)).natAbs ≤ 10 ^ 18 := fun e he => by
    rw [b4 _ (by omega), a3 e he]
    exact K1.sh (r := x) (by omega) he
  have c2 : ∀ e, e < 13 → (W4 (1 * 13 + e)).natAbs ≤ 10 ^ 18 := fun e he => by
    rw [a4 e he]
    exact K1.sh (r := y) (by omega) he
  have hj0 : 1 ≤ jdg W4 0 13 := by rw [jdg_congr (V := N) (p := x) 13 (fun e he => by rw [b4 _ (by omega), a3 e he])]; exact nzx
  have hl0 := jdg_le W4 0 13
  have hl1 := jdg_le W4 1 13
  iterate 2 refine mj_T.pl rfl rfl rfl rfl ?_
  refine mj_T.call (ins := .invokevirtual 114) rfl rfl (Nat.le_of_ble_eq_true rfl) (Nat.le_of_ble_eq_true rfl) (by simp [mj_recv, rS_f hs4]) rfl (mj_Ok.up (by decide) (jp_degreeOf (D := 0) (rG S1 N B T X) (p := 1) (by decide) hs4)) (fun v' h' hq' => ?_) (fun i h' hq' => by cases hq')
  cases hq'
  iterate 2 refine mj_T.pl rfl rfl rfl rfl ?_
  refine mj_T.call (ins := .invokevirtual 114) rfl rfl (Nat.le_of_ble_eq_true rfl) (Nat.le_of_ble_eq_true rfl) (by simp [mj_recv, rS_f hs4]) rfl (mj_Ok.up (by decide) (jp_degreeOf (D := 0) (rG S1 N B T X) (p := 0) (by decide) hs4)) (fun v' h' hq' => ?_) (fun i h' hq' => by cases hq')
  cases hq'
  have t93 : ∀ (V2 : Nat → Int) (g : mj_H), rS S1 N B T X V2 g → mj_T 39 mj_m262 93 [some (.ref 0), some (.int (jn (x : Int))), some (.int (jn (y : Int)))] [] g (rIx N0 u0 H tm er T) := fun V2 g hg => by
    refine mj_T.pl rfl rfl rfl rfl ?_
    exact mj_T.ret rfl rfl rfl ⟨0, g, ⟨by decide, by decide⟩, rfl, ⟨_, _, _, _, _, hg, K1⟩⟩
  refine mj_T.icmp (a := (jdg W4 1 13 : Int) - 1) (b := (jdg W4 0 13 : Int) - 1) rfl ⟨by omega, by omega⟩ ⟨by omega, by omega⟩ (fun hc => ?_) (fun hc => ?_)
  · exact t93 _ _ hs4
  iterate 4 refine mj_T.pl rfl rfl rfl rfl ?_
  refine mj_T.call (ins := .invokevirtual 155) rfl rfl (Nat.le_of_ble_eq_true rfl) (Nat.le_of_ble_eq_true rfl) (by simp [mj_recv, rS_f hs4]) rfl (mj_Ok.up (by decide) (jp_dividesExactly (D := 0) (V := W4) (rG S1 N B T X) (tq := 2) (a := 1) (b := 0) (db := jdg W4 0 13 - 1) (lc := W4 (0 * 13 + (jdg W4 0 13 - 1))) (al := 10 ^ 18) (be := 10 ^ 18) (by decide) (by decide) (by decide) (by decide) (by decide) (by decide) (by decide) (by decide) (by omega) rfl c2 c1 (by decide) (Nat.lt_of_le_of_lt (Nat.mul_le_mul_left _ (Nat.pow_le_pow_right (by decide) (by omega : _ ≤ 13))) rp_small4) hs4)) (fun v' g5 hq' => ?_) (fun i h' hq' => by obtain ⟨_, _, _, _, ⟨_, h⟩ | ⟨_, h⟩⟩ := hq' <;> cases h)
  obtain ⟨W5, _, hs5, _, ⟨_, hq'⟩ | ⟨_, hq'⟩⟩ := hq'
  · cases hq'
    refine mj_T.if0 (a := 1) rfl ⟨by decide, by decide⟩ (fun hc => ?_) (fun hc => ?_)
    · simp [jc] at hc
    iterate 2 refine mj_T.pl rfl rfl rfl rfl ?_
    exact mj_T.ret rfl rfl rfl ⟨1, _, ⟨by decide, by decide⟩, rfl, ⟨_, _, _, _, _, hs5, K1⟩⟩
  · cases hq'
    refine mj_T.if0 (a := 0) rfl ⟨by decide, by decide⟩ (fun hc => ?_) (fun hc => ?_)
    · exact t93 _ _ hs5
    · simp [jc] at hc
theorem rx_areSame {x y : Int} (hx : jr x) (hy : jr y) (hI : jIx N0 u0 H tm er T h) : mj_Ok 40 264 [.ref 0, .int (jn x), .int (jn y)] h (rIx N0 u0 H tm er T) := by
  refine mj_Ok.of (M := mj_m264) rfl rfl rfl ?_
  obtain ⟨S, N, B, X, V, hs, K⟩ := hI
  have t19 : mj_T 39 mj_m264 19 [some (.ref 0), some (.int (jn x)), some (.int (jn y))] [.ref 0] h (rIx N0 u0 H tm er T) := by
    refine mj_T.pl rfl rfl rfl rfl ?_
    refine rT_put (v := 1) hs rfl rfl (by decide) rfl (fun g1 hs1 => ?_)
    refine mj_T.pl rfl rfl rfl rfl ?_
    refine rT_get (v := .int (jn 1)) hs1 rfl (by rw [← jvu_at S 3 1]; rfl) ?_
    refine mj_T.if0 (a := 1) rfl ⟨by decide, by decide⟩ (fun hc => ?_) (fun hc => ?_)
    rotate_left
    · simp [jc] at hc
    refine mj_T.pl rfl rfl rfl rfl ?_
    exact mj_T.ret rfl rfl rfl ⟨0, g1, ⟨by decide, by decide⟩, rfl, ⟨_, N, B, X, V, hs1, K.put ⟨by decide, by decide⟩ (by decide) (by decide) (by decide) (by decide) (by decide)⟩⟩
  refine mj_T.pl rfl rfl rfl rfl ?_
  refine mj_T.pl rfl rfl rfl rfl ?_
  refine mj_T.call (ins := .invokestatic 181) rfl rfl (Nat.le_of_ble_eq_true rfl) (Nat.le_of_ble_eq_true rfl) rfl rfl (mj_Ok.up (by decide) (rp_isRegister (D := 0) hx)) (fun v' h' hq' => ?_) (fun i h' hq' => by rcases hq' with ⟨_, _, h⟩ | ⟨_, h⟩ <;> cases h)
  rcases hq' with ⟨x1, x2, hq'⟩ | ⟨_, hq'⟩
  case' inr =>
    cases hq'
    refine mj_T.if0 (a := 0) rfl ⟨by decide, by decide⟩ (fun hc => ?_) (fun hc => ?_)
    · exact t19
    · simp [jc] at hc
  cases hq'
  refine mj_T.if0 (a := 1) rfl ⟨by decide, by decide⟩ (fun hc => ?_) (fun hc => ?_)
  · simp [jc] at hc
  refine mj_T.pl rfl rfl rfl rfl ?_
  refine mj_T.call (ins := .invokestatic 181) rfl rfl (Nat.le_of_ble_eq_true rfl) (Nat.le_of_ble_eq_true rfl) rfl rfl (mj_Ok.up (by decide) (rp_isRegister (D := 0) hy)) (fun v' h' hq' => ?_) (fun i h' hq' => by rcases hq' with ⟨_, _, h⟩ | ⟨_, h⟩ <;> cases h)
  rcases hq' with ⟨y1, y2, hq'⟩ | ⟨_, hq'⟩
  case' inr =>
    cases hq'
    refine mj_T.if0 (a := 0) rfl ⟨by decide, by decide⟩ (fun hc => ?_) (fun hc => ?_)
    · exact t19
    · simp [jc] at hc
  cases hq'
  refine mj_T.if0 (a := 1) rfl ⟨by decide, by decide⟩ (fun hc => ?_) (fun hc => ?_)
  · simp [jc] at hc
  clear t19
  iterate 2 refine mj_T.pl rfl rfl rfl rfl ?_
  refine rT_put (v := 0) hs rfl rfl (by decide) rfl (fun g1 hs1 => ?_)
  have K1 := K.put (k := 3) (v := 0) ⟨by decide, by decide⟩ (by decide) (by decide) (by decide) (by decide) (by decide)
  refine mj_T.pl rfl rfl rfl rfl ?_
  refine rT_get (v := .int (jn 0)) hs1 rfl (by rw [← jvu_at S 3 0]; rfl) ?_
  generalize jvu S 3 0 = S1 at hs1 K1
  refine mj_T.if0 (a := 0) rfl ⟨by decide, by decide⟩ (fun hc => ?_) (fun hc => ?_)
  · simp [jc] at hc
  obtain ⟨x, rfl⟩ := Int.eq_ofNat_of_zero_le x1
  obtain ⟨y, rfl⟩ := Int.eq_ofNat_of_zero_le y1
  iterate 3 refine mj_T.pl rfl rfl rfl rfl ?_
  refine mj_T.call (ins := .invokevirtual 311) rfl rfl (Nat.le_of_ble_eq_true rfl) (Nat.le_of_ble_eq_true rfl) (by simp [mj_recv, rS_f hs1]) rfl (mj_Ok.up (by decide) (rp_isSame (D := 0) (x := x) (y := y) (by omega) (by omega) K1.nR hs1)) (fun v' h' hq' => ?_) (fun i h' hq' => by rcases hq' with ⟨_, h⟩ | ⟨_, h⟩ <;> cases h)
  rcases hq' with ⟨_, hq'⟩ | ⟨_, hq'⟩
  · cases hq'
    refine mj_T.if0 (a := 0) rfl ⟨by decide, by decide⟩ (fun hc => ?_) (fun hc => ?_)
    rotate_left
    · simp [jc] at hc
    refine mj_T.pl rfl rfl rfl rfl ?_
    exact mj_T.ret rfl rfl rfl ⟨0, _, ⟨by decide, by decide⟩, rfl, ⟨_, _, _, _, _, hs1, K1⟩⟩
  · cases hq'
    refine mj_T.if0 (a := 1) rfl ⟨by decide, by decide⟩ (fun hc => ?_) (fun hc => ?_)
    · simp [jc] at hc
    iterate 2 refine mj_T.pl rfl rfl rfl rfl ?_
    exact mj_T.ret rfl rfl rfl ⟨1, _, ⟨by decide, by decide⟩, rfl, ⟨_, _, _, _, _, hs1, K1⟩⟩
theorem rx_ag_loop {S N B X : Nat → Int} {x y : Int} {d : Nat} (hd : d ≤ 12) (K : jKx N0 u0 H tm er S N B T) :
    ∀ (m k c : Nat) (V : Nat → Int) (h : mj_H) (e6 : Option Value), k + m = d + 1 → c ≤ k → rS S N B T X V h → (∀ e, e < 13 → (V (0 * 13 + e)).natAbs ≤ 10 ^ 18) → (∀ e, e < 13 → (V (1 * 13 + e)).natAbs ≤ 10 ^ 18) → mj_T 39 mj_m265 61 [some (.ref 0), some (.int (jn x)), some (.int (jn y)), some (.int (jn (d : Int))), some (.int (jn (c : Int))), some (.int (jn (k : Int))), e6] [] h (rIx N0 u0 H tm er T) := by
  intro m
  induction m with
  | zero =>
    intro k c V h e6 hk hc hs c1 c2
    iterate 2 refine mj_T.pl rfl rfl rfl rfl ?_
    refine mj_T.icmp (a := (k : Int)) (b := (d : Int)) rfl ⟨by omega, by omega⟩ ⟨by omega, by omega⟩ (fun hc => ?_) (fun hc => ?_)
    · refine mj_T.pl rfl rfl rfl rfl ?_
      exact mj_T.ret rfl rfl rfl ⟨(c : Int), h, ⟨by omega, by omega⟩, rfl, ⟨_, _, _, _, _, hs, K⟩⟩
    · simp only [jc, decide_eq_false_iff_not] at hc
      omega
  | succ m ih =>
    intro k c V h e6 hk hc hs c1 c2
    iterate 2 refine mj_T.pl rfl rfl rfl rfl ?_
    refine mj_T.icmp (a := (k : Int)) (b := (d : Int)) rfl ⟨by omega, by omega⟩ ⟨by omega, by omega⟩ (fun hc => ?_) (fun hc => ?_)
    · simp only [jc, decide_eq_true_eq] at hc
      omega
    iterate 3 refine mj_T.pl rfl rfl rfl rfl ?_
    refine mj_T.call (ins := .invokevirtual 305) rfl rfl (Nat.le_of_ble_eq_true rfl) (Nat.le_of_ble_eq_true rfl) (by simp [mj_recv, rS_f hs]) rfl (mj_Ok.up (by decide) (rp_setsFraction (D := 0) (x := (k : Int)) (y := 1) ⟨by omega, by omega⟩ ⟨by decide, by decide⟩ hs)) (fun v' g1 hq' => ?_) (fun i h' hq' => by obtain ⟨_, _, _, _, _, _, h⟩ := hq'; cases h)
    obtain ⟨W1, _, hs1, x1a, x1b, x1c, hq'⟩ := hq'
    cases hq'
    iterate 2 refine mj_T.pl rfl rfl rfl rfl ?_
    refine mj_T.call (ins := .invokevirtual 162) rfl rfl (Nat.le_of_ble_eq_true rfl) (Nat.le_of_ble_eq_true rfl) (by simp [mj_recv, rS_f hs1]) rfl (mj_Ok.up (by decide) (jp_valueAt (D := 0) (V := W1) (p := 0) (rG S N B T X) (by decide) (C := 10 ^ 18) (x := 1000) (fun e he => by rw [x1c _ (by omega) (by omega)]; exact c1 e he) (by rw [x1a]; omega) (by rw [x1b]; decide) (by decide) rp_fitv rp_fitv2 hs1)) (fun v' g2 hq' => ?_) (fun i h' hq' => by obtain ⟨_, _, _, _, _, _, _, h⟩ := hq'; cases h)
    obtain ⟨W2, _, hs2, f1, _, _, _, hq'⟩ := hq'
    cases hq'
    iterate 4 refine mj_T.pl rfl rfl rfl rfl ?_
    refine mj_T.call (ins := .invokevirtual 84) rfl rfl (Nat.le_of_ble_eq_true rfl) (Nat.le_of_ble_eq_true rfl) (by simp [mj_recv, rS_f hs2]) rfl (mj_Ok.up (by decide) (jS_copies (D := 0) (rG S N B T X) (to := 661) (s := 659) (by decide) (by decide) hs2)) (fun v' g3 hq' => ?_) (fun i h' hq' => by obtain ⟨_, _, h⟩ := hq'; cases h)
    obtain ⟨_, hs3, hq'⟩ := hq'
    cases hq'
    have f2 : ∀ s, s ≠ 661 → jvu W2 661 (W2 659) s = W2 s := fun s hne => jvu_ne _ _ _ hne
    generalize jvu W2 661 (W2 659) = W3 at hs3 f2
    iterate 2 refine mj_T.pl rfl rfl rfl rfl ?_
    refine mj_T.call (ins := .invokevirtual 162) rfl rfl (Nat.le_of_ble_eq_true rfl) (Nat.le_of_ble_eq_true rfl) (by simp [mj_recv, rS_f hs3]) rfl (mj_Ok.up (by decide) (jp_valueAt (D := 0) (V := W3) (p := 1) (rG S N B T X) (by decide) (C := 10 ^ 18) (x := 1000) (fun e he => by rw [f2 _ (by omega), f1 _ (by omega) (by omega) (by omega), x1c _ (by omega) (by omega)]; exact c2 e he) (by rw [f2 _ (by decide), f1 _ (by decide) (by decide) (by decide), x1a]; omega) (by rw [f2 _ (by decide), f1 _ (by decide) (by decide) (by decide), x1b]; decide) (by decide) rp_fitv rp_fitv2 hs3)) (fun v' g4 hq' => ?_) (fun i h' hq' => by obtain ⟨_, _, _, _, _, _, _, h⟩ := hq'; cases h)
    obtain ⟨W4, _, hs4, f3, _, _, _, hq'⟩ := hq'
    cases hq'
    iterate 5 refine mj_T.pl rfl rfl rfl rfl ?_
    refine mj_T.call (ins := .invokevirtual 314) rfl rfl (Nat.le_of_ble_eq_true rfl) (Nat.le_of_ble_eq_true rfl) (by simp [mj_recv, rS_f hs4]) rfl (mj_Ok.up (by decide) (rp_compares (a := 661) (b := 659) (by decide) (by decide) hs4)) (fun v' h' hq' => ?_) (fun i h' hq' => by obtain ⟨_, _, h⟩ := hq'; cases h)
    obtain ⟨z, hz, hq'⟩ := hq'
    cases hq'
    refine mj_T.if0 (a := z) rfl ⟨by omega, by omega⟩ (fun hc2 => ?_) (fun hc2 => ?_)
    · skip
      refine mj_T.pl rfl rfl rfl rfl ?_
      refine mj_T.iadd (a := (c : Int)) (b := 0) rfl ?_
      rw [show (c : Int) + 0 = ((c + 0 : Nat) : Int) by omega]
      refine mj_T.pl rfl rfl rfl rfl ?_
      refine mj_T.iinc (a := (k : Int)) rfl rfl ?_
      refine mj_T.pl rfl rfl rfl rfl ?_
      exact ih (k + 1) (c + 0) _ _ _ (by omega) (by omega) hs4 (fun e he => by rw [f3 _ (by omega) (by omega) (by omega), f2 _ (by omega), f1 _ (by omega) (by omega) (by omega), x1c _ (by omega) (by omega)]; exact c1 e he) (fun e he => by rw [f3 _ (by omega) (by omega) (by omega), f2 _ (by omega), f1 _ (by omega) (by omega) (by omega), x1c _ (by omega) (by omega)]; exact c2 e he)
    · skip
      iterate 2 refine mj_T.pl rfl rfl rfl rfl ?_
      refine mj_T.iadd (a := (c : Int)) (b := 1) rfl ?_
      rw [show (c : Int) + 1 = ((c + 1 : Nat) : Int) by omega]
      refine mj_T.pl rfl rfl rfl rfl ?_
      refine mj_T.iinc (a := (k : Int)) rfl rfl ?_
      refine mj_T.pl rfl rfl rfl rfl ?_
      exact ih (k + 1) (c + 1) _ _ _ (by omega) (by omega) hs4 (fun e he => by rw [f3 _ (by omega) (by omega) (by omega), f2 _ (by omega), f1 _ (by omega) (by omega) (by omega), x1c _ (by omega) (by omega)]; exact c1 e he) (fun e he => by rw [f3 _ (by omega) (by omega) (by omega), f2 _ (by omega), f1 _ (by omega) (by omega) (by omega), x1c _ (by omega) (by omega)]; exact c2 e he)
theorem rx_agreements {x y : Int} (hx : jr x) (hy : jr y) (hI : jIx N0 u0 H tm er T h) : mj_Ok 40 265 [.ref 0, .int (jn x), .int (jn y)] h (rIx N0 u0 H tm er T) := by
  refine mj_Ok.of (M := mj_m265) rfl rfl rfl ?_
  obtain ⟨S, N, B, X, V, hs, K⟩ := hI
  iterate 2 refine mj_T.pl rfl rfl rfl rfl ?_
  refine rT_put (v := 0) hs rfl rfl (by decide) rfl (fun g5 hs5 => ?_)
  have K5 := K.put (k := 3) (v := 0) ⟨by decide, by decide⟩ (by decide) (by decide) (by decide) (by decide) (by decide)
  generalize jvu S 3 0 = S5 at hs5 K5
  have t19 : mj_T 39 mj_m265 19 [some (.ref 0), some (.int (jn x)), some (.int (jn y)), none, none, none, none] [] g5 (rIx N0 u0 H tm er T) := by
    iterate 2 refine mj_T.pl rfl rfl rfl rfl ?_
    refine mj_T.call (ins := .invokevirtual 198) rfl rfl (Nat.le_of_ble_eq_true rfl) (Nat.le_of_ble_eq_true rfl) (by simp [mj_recv, rS_f hs5]) rfl (mj_Ok.up (by decide) (rp_fails (D := 0) (c := 1) hs5)) (fun v' g6 hq' => ?_) (fun i h' hq' => by obtain ⟨_, _, h⟩ := hq'; cases h)
    obtain ⟨_, hs6, hq'⟩ := hq'
    cases hq'
    exact mj_T.ret rfl rfl rfl ⟨0, g6, ⟨by decide, by decide⟩, rfl, ⟨_, N, B, X, V, hs6, K5.put ⟨by decide, by decide⟩ (by decide) (by decide) (by decide) (by decide) (by decide)⟩⟩
  refine mj_T.pl rfl rfl rfl rfl ?_
  refine mj_T.call (ins := .invokestatic 181) rfl rfl (Nat.le_of_ble_eq_true rfl) (Nat.le_of_ble_eq_true rfl) rfl rfl (mj_Ok.up (by decide) (rp_isRegister (D := 0) hx)) (fun v' h' hq' => ?_) (fun i h' hq' => by rcases hq' with ⟨_, _, h⟩ | ⟨_, h⟩ <;> cases h)
  rcases hq' with ⟨x1, x2, hq'⟩ | ⟨_, hq'⟩
  case' inr =>
    cases hq'
    refine mj_T.if0 (a := 0) rfl ⟨by decide, by decide⟩ (fun hc => ?_) (fun hc => ?_)
    · exact t19
    · simp [jc] at hc
  cases hq'
  refine mj_T.if0 (a := 1) rfl ⟨by decide, by decide⟩ (fun hc => ?_) (fun hc => ?_)
  · simp [jc] at hc
  refine mj_T.pl rfl rfl rfl rfl ?_
  refine mj_T.call (ins := .invokestatic 181) rfl rfl (Nat.le_of_ble_eq_true rfl) (Nat.le_of_ble_eq_true rfl) rfl rfl (mj_Ok.up (by decide) (rp_isRegister (D := 0) hy)) (fun v' h' hq' => ?_) (fun i h' hq' => by rcases hq' with ⟨_, _, h⟩ | ⟨_, h⟩ <;> cases h)
  rcases hq' with ⟨y1, y2, hq'⟩ | ⟨_, hq'⟩
  case' inr =>
    cases hq'
    refine mj_T.if0 (a := 0) rfl ⟨by decide, by decide⟩ (fun hc => ?_) (fun hc => ?_)
    · simp [jc] at hc
    · exact t19
  cases hq'
  refine mj_T.if0 (a := 1) rfl ⟨by decide, by decide⟩ (fun hc => ?_) (fun hc => ?_)
  rotate_left
  · simp [jc] at hc
  clear t19
  obtain ⟨x, rfl⟩ := Int.eq_ofNat_of_zero_le x1
  obtain ⟨y, rfl⟩ := Int.eq_ofNat_of_zero_le y1
  iterate 3 refine mj_T.pl rfl rfl rfl rfl ?_
  refine mj_T.call (ins := .invokevirtual 213) rfl rfl (Nat.le_of_ble_eq_true rfl) (Nat.le_of_ble_eq_true rfl) (by simp [mj_recv, rS_f hs5]) rfl (mj_Ok.up (by decide) (rp_loads (D := 0) (p := 0) (r := x) (by decide) (by omega) K5.nR hs5)) (fun v' g7 hq' => ?_) (fun i h' hq' => by obtain ⟨_, _, h⟩ := hq'; cases h)
  obtain ⟨_, hs7, hq'⟩ := hq'
  cases hq'
  have a7 : ∀ e, e < 13 → jfl V 0 (fun e => N (x * 13 + e)) 13 (0 * 13 + e) = N (x * 13 + e) := fun e he => jfl_at _ _ _ he
  have b7 : ∀ s, (s < 0 * 13 ∨ 0 * 13 + 13 ≤ s) → jfl V 0 (fun e => N (x * 13 + e)) 13 s = V s := fun s hc => jfl_off _ _ _ hc
  generalize jfl V 0 (fun e => N (x * 13 + e)) 13 = W7 at hs7 a7 b7
  iterate 3 refine mj_T.pl rfl rfl rfl rfl ?_
  refine mj_T.call (ins := .invokevirtual 213) rfl rfl (Nat.le_of_ble_eq_true rfl) (Nat.le_of_ble_eq_true rfl) (by simp [mj_recv, rS_f hs7]) rfl (mj_Ok.up (by decide) (rp_loads (D := 0) (p := 1) (r := y) (by decide) (by omega) K5.nR hs7)) (fun v' g8 hq' => ?_) (fun i h' hq' => by obtain ⟨_, _, h⟩ := hq'; cases h)
  obtain ⟨_, hs8, hq'⟩ := hq'
  cases hq'
  have a8 : ∀ e, e < 13 → jfl W7 1 (fun e => N (y * 13 + e)) 13 (1 * 13 + e) = N (y * 13 + e) := fun e he => jfl_at _ _ _ he
  have b8 : ∀ s, (s < 1 * 13 ∨ 1 * 13 + 13 ≤ s) → jfl W7 1 (fun e => N (y * 13 + e)) 13 s = W7 s := fun s hc => jfl_off _ _ _ hc
  generalize jfl W7 1 (fun e => N (y * 13 + e)) 13 = W8 at hs8 a8 b8
  have c1 : ∀ e, e < 13 → (W8 (0 * 13 + e)).natAbs ≤ 10 ^ 18 := fun e he => by
    rw [b8 _ (by omega), a7 e he]
    exact K5.sh (r := x) (by omega) he
  have c2 : ∀ e, e < 13 → (W8 (1 * 13 + e)).natAbs ≤ 10 ^ 18 := fun e he => by
    rw [a8 e he]
    exact K5.sh (r := y) (by omega) he
  have hl0 := jdg_le W8 0 13
  have hl1 := jdg_le W8 1 13
  iterate 3 refine mj_T.pl rfl rfl rfl rfl ?_
  refine mj_T.call (ins := .invokevirtual 114) rfl rfl (Nat.le_of_ble_eq_true rfl) (Nat.le_of_ble_eq_true rfl) (by simp [mj_recv, rS_f hs8]) rfl (mj_Ok.up (by decide) (jp_degreeOf (D := 0) (rG S5 N B T X) (p := 0) (by decide) hs8)) (fun v' h' hq' => ?_) (fun i h' hq' => by cases hq')
  cases hq'
  iterate 2 refine mj_T.pl rfl rfl rfl rfl ?_
  refine mj_T.call (ins := .invokevirtual 114) rfl rfl (Nat.le_of_ble_eq_true rfl) (Nat.le_of_ble_eq_true rfl) (by simp [mj_recv, rS_f hs8]) rfl (mj_Ok.up (by decide) (jp_degreeOf (D := 0) (rG S5 N B T X) (p := 1) (by decide) hs8)) (fun v' h' hq' => ?_) (fun i h' hq' => by cases hq')
  cases hq'
  refine mj_T.imax (a := (jdg W8 0 13 : Int) - 1) (b := (jdg W8 1 13 : Int) - 1) rfl rfl (Nat.le_of_ble_eq_true rfl) ⟨by omega, by omega⟩ ⟨by omega, by omega⟩ ?_
  obtain ⟨mx, hmx⟩ : ∃ mx, mx = max ((jdg W8 0 13 : Int) - 1) ((jdg W8 1 13 : Int) - 1) := ⟨_, rfl⟩
  rw [← hmx]
  have hmx2 : -1 ≤ mx ∧ mx ≤ 12 := by omega
  refine mj_T.imax (a := 0) (b := mx) rfl rfl (Nat.le_of_ble_eq_true rfl) ⟨by decide, by decide⟩ ⟨by omega, by omega⟩ ?_
  obtain ⟨d, hd⟩ : ∃ d : Nat, max 0 mx = (d : Int) := Int.eq_ofNat_of_zero_le (by omega)
  rw [hd]
  iterate 5 refine mj_T.pl rfl rfl rfl rfl ?_
  exact rx_ag_loop (d := d) (by omega) K5 (d + 1) 0 0 _ _ none (by omega) (by decide) hs8 c1 c2
theorem rx_digits {x : Int} (hx : jr x) (hI : jIx N0 u0 H tm er T h) : mj_Ok 40 268 [.ref 0, .int (jn x)] h (rIx N0 u0 H tm er T) := by
  refine mj_Ok.of (M := mj_m268) rfl rfl rfl ?_
  obtain ⟨S, N, B, X, V, hs, K⟩ := hI
  iterate 2 refine mj_T.pl rfl rfl rfl rfl ?_
  refine rT_put (v := 0) hs rfl rfl (by decide) rfl (fun g9 hs9 => ?_)
  have K9 := K.put (k := 3) (v := 0) ⟨by decide, by decide⟩ (by decide) (by decide) (by decide) (by decide) (by decide)
  generalize jvu S 3 0 = S9 at hs9 K9
  iterate 2 refine mj_T.pl rfl rfl rfl rfl ?_
  refine mj_T.call (ins := .invokestatic 317) rfl rfl (Nat.le_of_ble_eq_true rfl) (Nat.le_of_ble_eq_true rfl) rfl rfl (mj_Ok.up (by decide) (rp_told hx)) (fun v' h' hq' => ?_) (fun i h' hq' => by obtain ⟨_, _, h⟩ := hq'; cases h)
  obtain ⟨s, hst, hq'⟩ := hq'
  cases hq'
  refine mj_T.call (ins := .invokevirtual 321) rfl rfl (Nat.le_of_ble_eq_true rfl) (Nat.le_of_ble_eq_true rfl) (by simp [mj_recv, rS_f hs9]) rfl (mj_Ok.up (by decide) (rp_digitsOf (s := s) (by omega) hs9)) (fun v' h' hq' => ?_) (fun i h' hq' => by obtain ⟨_, _, h⟩ := hq'; cases h)
  obtain ⟨c, hc9, hq'⟩ := hq'
  cases hq'
  exact mj_T.ret rfl rfl rfl ⟨(c : Int), g9, ⟨by omega, by omega⟩, rfl, ⟨S9, N, B, X, V, hs9, K9⟩⟩
theorem rx_low {x : Int} (hx : jr x) (hI : jIx N0 u0 H tm er T h) : mj_Ok 40 270 [.ref 0, .int (jn x)] h (rJx N0 u0 H tm er T) := by
  refine mj_Ok.of (M := mj_m270) rfl rfl rfl ?_
  obtain ⟨S, N, B, X, V, hs, K⟩ := hI
  iterate 2 refine mj_T.pl rfl rfl rfl rfl ?_
  refine rT_put (v := 0) hs rfl rfl (by decide) rfl (fun g10 hs10 => ?_)
  have K10 := K.put (k := 3) (v := 0) ⟨by decide, by decide⟩ (by decide) (by decide) (by decide) (by decide) (by decide)
  generalize jvu S 3 0 = S10 at hs10 K10
  iterate 2 refine mj_T.pl rfl rfl rfl rfl ?_
  refine mj_T.call (ins := .invokestatic 317) rfl rfl (Nat.le_of_ble_eq_true rfl) (Nat.le_of_ble_eq_true rfl) rfl rfl (mj_Ok.up (by decide) (rp_told hx)) (fun v' h' hq' => ?_) (fun i h' hq' => by obtain ⟨_, _, h⟩ := hq'; cases h)
  obtain ⟨s, hst, hq'⟩ := hq'
  cases hq'
  refine mj_T.call (ins := .invokevirtual 191) rfl rfl (Nat.le_of_ble_eq_true rfl) (Nat.le_of_ble_eq_true rfl) (by simp [mj_recv, rS_f hs10]) rfl (mj_Ok.up (by decide) (rp_asLong (D := 0) (s := s) (by omega) hs10)) (fun v' h' hq' => ?_) (fun i h' hq' => by cases hq')
  cases hq'
  exact mj_T.ret rfl rfl rfl ⟨_, _, rfl, ⟨_, _, _, _, _, hs10, K10⟩⟩
theorem rx_dt_loop {S N B X V : Nat → Int} {x y : Int} {s : Nat} (K : jKx N0 u0 H tm er S N B T) (hs : rS S N B T X V h) :
    ∀ (m v : Nat), m ≤ 8 → v < 1000000000 → mj_T 39 mj_m269 50 [some (.ref 0), some (.int (jn x)), some (.int (jn y)), some (.int (jn (s : Int))), some (.int (jn (v : Int))), some (.int (jn (m : Int)))] [] h (rIx N0 u0 H tm er T) := by
  intro m
  induction m with
  | zero =>
    intro v hm hv
    refine mj_T.pl rfl rfl rfl rfl ?_
    refine mj_T.if0 (a := ((0 : Nat) : Int)) rfl ⟨by decide, by decide⟩ (fun hc2 => ?_) (fun hc2 => ?_)
    · iterate 2 refine mj_T.pl rfl rfl rfl rfl ?_
      refine mj_T.irem (a := (v : Int)) (b := 10) rfl ⟨by omega, by omega⟩ ⟨by decide, by decide⟩ (by decide) ?_
      rw [show (v : Int).tmod 10 = ((v % 10 : Nat) : Int) from rfl]
      exact mj_T.ret rfl rfl rfl ⟨_, h, ⟨by omega, by omega⟩, rfl, ⟨_, _, _, _, _, hs, K⟩⟩
    · simp [jc] at hc2
  | succ m ih =>
    intro v hm hv
    refine mj_T.pl rfl rfl rfl rfl ?_
    refine mj_T.if0 (a := ((m + 1 : Nat) : Int)) rfl ⟨by omega, by omega⟩ (fun hc2 => ?_) (fun hc2 => ?_)
    · simp only [jc, decide_eq_true_eq] at hc2
      omega
    iterate 2 refine mj_T.pl rfl rfl rfl rfl ?_
    refine mj_T.idiv (a := (v : Int)) (b := 10) rfl ⟨by omega, by omega⟩ ⟨by decide, by decide⟩ (by decide) ?_
    rw [show (v : Int).tdiv 10 = ((v / 10 : Nat) : Int) from rfl]
    refine mj_T.pl rfl rfl rfl rfl ?_
    refine mj_T.iinc (a := ((m + 1 : Nat) : Int)) rfl rfl ?_
    refine mj_T.pl rfl rfl rfl rfl ?_
    rw [show ((m + 1 : Nat) : Int) + -1 = (m : Int) by omega]
    exact ih (v / 10) (by omega) (by omega)
theorem rx_digit {x y : Int} (hx : jr x) (hy : jr y) (hI : jIx N0 u0 H tm er T h) : mj_Ok 40 269 [.ref 0, .int (jn x), .int (jn y)] h (rIx N0 u0 H tm er T) := by
  refine mj_Ok.of (M := mj_m269) rfl rfl rfl ?_
  obtain ⟨S, N, B, X, V, hs, K⟩ := hI
  iterate 2 refine mj_T.pl rfl rfl rfl rfl ?_
  refine rT_put (v := 0) hs rfl rfl (by decide) rfl (fun g11 hs11 => ?_)
  have K11 := K.put (k := 3) (v := 0) ⟨by decide, by decide⟩ (by decide) (by decide) (by decide) (by decide) (by decide)
  generalize jvu S 3 0 = S11 at hs11 K11
  refine mj_T.pl rfl rfl rfl rfl ?_
  refine mj_T.call (ins := .invokestatic 317) rfl rfl (Nat.le_of_ble_eq_true rfl) (Nat.le_of_ble_eq_true rfl) rfl rfl (mj_Ok.up (by decide) (rp_told hx)) (fun v' h' hq' => ?_) (fun i h' hq' => by obtain ⟨_, _, h⟩ := hq'; cases h)
  obtain ⟨s, hst, hq'⟩ := hq'
  cases hq'
  iterate 2 refine mj_T.pl rfl rfl rfl rfl ?_
  refine mj_T.i2l rfl hy ?_
  iterate 3 refine mj_T.pl rfl rfl rfl rfl ?_
  refine mj_T.call (ins := .invokevirtual 321) rfl rfl (Nat.le_of_ble_eq_true rfl) (Nat.le_of_ble_eq_true rfl) (by simp [mj_recv, rS_f hs11]) rfl (mj_Ok.up (by decide) (rp_digitsOf (s := s) (by omega) hs11)) (fun v' h' hq' => ?_) (fun i h' hq' => by obtain ⟨_, _, h⟩ := hq'; cases h)
  obtain ⟨c, hc9, hq'⟩ := hq'
  cases hq'
  refine mj_T.pl rfl rfl rfl rfl ?_
  refine mj_T.isub (a := (c : Int)) (b := 1) rfl ?_
  refine mj_T.i2l rfl ⟨by omega, by omega⟩ ?_
  refine mj_T.call (ins := .invokestatic 177) rfl rfl (Nat.le_of_ble_eq_true rfl) (Nat.le_of_ble_eq_true rfl) rfl rfl (mj_Ok.up (by decide) (rp_in (D := 0) (v := y) (lo := 0) (hi := (c : Int) - 1) ⟨by have := hy.1; omega, by have := hy.2; omega⟩ ⟨by decide, by decide⟩ ⟨by omega, by omega⟩)) (fun v' h' hq' => ?_) (fun i h' hq' => by rcases hq' with ⟨_, _, h⟩ | ⟨_, h⟩ <;> cases h)
  rcases hq' with ⟨y1, y2, hq'⟩ | ⟨_, hq'⟩
  case' inr =>
    cases hq'
    refine mj_T.if0 (a := 0) rfl ⟨by decide, by decide⟩ (fun hc => ?_) (fun hc => ?_)
    · simp [jc] at hc
    iterate 2 refine mj_T.pl rfl rfl rfl rfl ?_
    refine mj_T.call (ins := .invokevirtual 198) rfl rfl (Nat.le_of_ble_eq_true rfl) (Nat.le_of_ble_eq_true rfl) (by simp [mj_recv, rS_f hs11]) rfl (mj_Ok.up (by decide) (rp_fails (D := 0) (c := 1) hs11)) (fun v' g12 hq' => ?_) (fun i h' hq' => by obtain ⟨_, _, h⟩ := hq'; cases h)
    obtain ⟨_, hs12, hq'⟩ := hq'
    cases hq'
    exact mj_T.ret rfl rfl rfl ⟨0, g12, ⟨by decide, by decide⟩, rfl, ⟨_, N, B, X, V, hs12, K11.put ⟨by decide, by decide⟩ (by decide) (by decide) (by decide) (by decide) (by decide)⟩⟩
  cases hq'
  refine mj_T.if0 (a := 1) rfl ⟨by decide, by decide⟩ (fun hc => ?_) (fun hc => ?_)
  rotate_left
  · simp [jc] at hc
  obtain ⟨y, rfl⟩ := Int.eq_ofNat_of_zero_le y1
  iterate 4 refine mj_T.pl rfl rfl rfl rfl ?_
  refine mj_T.idiv (a := (y : Int)) (b := 9) rfl ⟨by omega, by omega⟩ ⟨by decide, by decide⟩ (by decide) ?_
  rw [show (y : Int).tdiv 9 = ((y / 9 : Nat) : Int) from rfl]
  refine mj_T.call (ins := .invokevirtual 64) rfl rfl (Nat.le_of_ble_eq_true rfl) (Nat.le_of_ble_eq_true rfl) (by simp [mj_recv, rS_f hs11]) rfl (mj_Ok.up (by decide) (jS_limb (D := 0) (rG S11 N B T X) (s := s) (j := y / 9) (by omega) (by omega) hs11)) (fun v' h' hq' => ?_) (fun i h' hq' => by cases hq')
  cases hq'
  have hlb := jlb_lt (V s).natAbs (y / 9)
  iterate 3 refine mj_T.pl rfl rfl rfl rfl ?_
  refine mj_T.irem (a := (y : Int)) (b := 9) rfl ⟨by omega, by omega⟩ ⟨by decide, by decide⟩ (by decide) ?_
  rw [show (y : Int).tmod 9 = ((y % 9 : Nat) : Int) from rfl]
  refine mj_T.pl rfl rfl rfl rfl ?_
  exact rx_dt_loop K11 hs11 (y % 9) _ (by omega) hlb
theorem rx_pointCount  (hI : jIx N0 u0 H tm er T h) : mj_Ok 40 283 [.ref 0] h (rIx N0 u0 H tm er T) := by
  refine mj_Ok.of (M := mj_m283) rfl rfl rfl ?_
  obtain ⟨S, N, B, X, V, hs, K⟩ := hI
  iterate 2 refine mj_T.pl rfl rfl rfl rfl ?_
  refine rT_put (v := 0) hs rfl rfl (by decide) rfl (fun g13 hs13 => ?_)
  have K13 := K.put (k := 3) (v := 0) ⟨by decide, by decide⟩ (by decide) (by decide) (by decide) (by decide) (by decide)
  generalize jvu S 3 0 = S13 at hs13 K13
  refine mj_T.pl rfl rfl rfl rfl ?_
  refine rT_get hs13 rfl rfl ?_
  refine mj_T.pl rfl rfl rfl rfl ?_
  have hg := K13.1.1.2.1
  refine rT_ldN (i := ((78 : Nat) : Int)) hs13 rfl ⟨by decide, by decide⟩ ?_
  rw [Int.toNat_natCast]
  refine mj_T.l2i rfl ?_
  exact mj_T.ret rfl rfl rfl ⟨_, g13, ⟨by omega, by omega⟩, rfl, ⟨S13, N, B, X, V, hs13, K13⟩⟩
theorem rx_rsb_loop {S N B X V : Nat → Int} {r z : Nat} (hr : r ≤ 5) (hz : 2 ≤ z) (hz2 : z ≤ 97) (hs : rS S N B T X V h) (K : jKx N0 u0 H tm er S N B T) :
    ∀ (m k c : Nat), k + m = z → c ≤ k → mj_T 39 mj_m281 36 [some (.ref 0), some (.int (jn (r : Int))), some (.int (jn (z : Int))), some (.int (jn (c : Int))), some (.int (jn (k : Int)))] [] h (rIx N0 u0 H tm er T) := by
  intro m
  induction m with
  | zero =>
    intro k c hk hc
    iterate 2 refine mj_T.pl rfl rfl rfl rfl ?_
    refine mj_T.icmp (a := (k : Int)) (b := (z : Int)) rfl ⟨by omega, by omega⟩ ⟨by omega, by omega⟩ (fun hc2 => ?_) (fun hc2 => ?_)
    · refine mj_T.pl rfl rfl rfl rfl ?_
      exact mj_T.ret rfl rfl rfl ⟨(c : Int), h, ⟨by omega, by omega⟩, rfl, ⟨_, _, _, _, _, hs, K⟩⟩
    · simp only [jc, decide_eq_false_iff_not] at hc2
      omega
  | succ m ih =>
    intro k c hk hc
    iterate 2 refine mj_T.pl rfl rfl rfl rfl ?_
    refine mj_T.icmp (a := (k : Int)) (b := (z : Int)) rfl ⟨by omega, by omega⟩ ⟨by omega, by omega⟩ (fun hc2 => ?_) (fun hc2 => ?_)
    · simp only [jc, decide_eq_true_eq] at hc2
      omega
    iterate 5 refine mj_T.pl rfl rfl rfl rfl ?_
    refine mj_T.call (ins := .invokevirtual 341) rfl rfl (Nat.le_of_ble_eq_true rfl) (Nat.le_of_ble_eq_true rfl) (by simp [mj_recv, rS_f hs]) rfl (mj_Ok.up (by decide) (rp_isRootBy (r := r) (x := k) (z := z) hr (by omega) hz hz2 K.nR hs)) (fun v' h' hq' => ?_) (fun i h' hq' => by rcases hq' with ⟨_, h⟩ | ⟨_, h⟩ <;> cases h)
    rcases hq' with ⟨_, hq'⟩ | ⟨_, hq'⟩
    · cases hq'
      refine mj_T.if0 (a := 0) rfl ⟨by decide, by decide⟩ (fun hc => ?_) (fun hc => ?_)
      rotate_left
      · simp [jc] at hc
      refine mj_T.pl rfl rfl rfl rfl ?_
      refine mj_T.iadd (a := (c : Int)) (b := 0) rfl ?_
      rw [show (c : Int) + 0 = ((c + 0 : Nat) : Int) by omega]
      refine mj_T.pl rfl rfl rfl rfl ?_
      refine mj_T.iinc (a := (k : Int)) rfl rfl ?_
      refine mj_T.pl rfl rfl rfl rfl ?_
      exact ih (k + 1) (c + 0) (by omega) (by omega)
    · cases hq'
      refine mj_T.if0 (a := 1) rfl ⟨by decide, by decide⟩ (fun hc => ?_) (fun hc => ?_)
      · simp [jc] at hc
      iterate 2 refine mj_T.pl rfl rfl rfl rfl ?_
      refine mj_T.iadd (a := (c : Int)) (b := 1) rfl ?_
      rw [show (c : Int) + 1 = ((c + 1 : Nat) : Int) by omega]
      refine mj_T.pl rfl rfl rfl rfl ?_
      refine mj_T.iinc (a := (k : Int)) rfl rfl ?_
      refine mj_T.pl rfl rfl rfl rfl ?_
      exact ih (k + 1) (c + 1) (by omega) (by omega)
theorem rx_rootsBy {x y : Int} (hx : jr x) (hy : jr y) (hI : jIx N0 u0 H tm er T h) : mj_Ok 40 281 [.ref 0, .int (jn x), .int (jn y)] h (rIx N0 u0 H tm er T) := by
  refine mj_Ok.of (M := mj_m281) rfl rfl rfl ?_
  obtain ⟨S, N, B, X, V, hs, K⟩ := hI
  iterate 2 refine mj_T.pl rfl rfl rfl rfl ?_
  refine rT_put (v := 0) hs rfl rfl (by decide) rfl (fun g10 hs10 => ?_)
  have K10 := K.put (k := 3) (v := 0) ⟨by decide, by decide⟩ (by decide) (by decide) (by decide) (by decide) (by decide)
  generalize jvu S 3 0 = S10 at hs10 K10
  refine mj_T.pl rfl rfl rfl rfl ?_
  refine mj_T.call (ins := .invokestatic 181) rfl rfl (Nat.le_of_ble_eq_true rfl) (Nat.le_of_ble_eq_true rfl) rfl rfl (mj_Ok.up (by decide) (rp_isRegister (D := 0) hx)) (fun v' h' hq' => ?_) (fun i h' hq' => by rcases hq' with ⟨_, _, h⟩ | ⟨_, h⟩ <;> cases h)
  rcases hq' with ⟨x1, x2, hq'⟩ | ⟨_, hq'⟩
  case' inr =>
    cases hq'
    refine mj_T.if0 (a := 0) rfl ⟨by decide, by decide⟩ (fun hc => ?_) (fun hc => ?_)
    · simp [jc] at hc
    iterate 2 refine mj_T.pl rfl rfl rfl rfl ?_
    refine mj_T.call (ins := .invokevirtual 198) rfl rfl (Nat.le_of_ble_eq_true rfl) (Nat.le_of_ble_eq_true rfl) (by simp [mj_recv, rS_f hs10]) rfl (mj_Ok.up (by decide) (rp_fails (D := 0) (c := 1) hs10)) (fun v' g11 hq' => ?_) (fun i h' hq' => by obtain ⟨_, _, h⟩ := hq'; cases h)
    obtain ⟨_, hs11, hq'⟩ := hq'
    cases hq'
    exact mj_T.ret rfl rfl rfl ⟨0, g11, ⟨by decide, by decide⟩, rfl, ⟨_, N, B, X, V, hs11, K10.put ⟨by decide, by decide⟩ (by decide) (by decide) (by decide) (by decide) (by decide)⟩⟩
  cases hq'
  refine mj_T.if0 (a := 1) rfl ⟨by decide, by decide⟩ (fun hc => ?_) (fun hc => ?_)
  rotate_left
  · simp [jc] at hc
  obtain ⟨x, rfl⟩ := Int.eq_ofNat_of_zero_le x1
  refine mj_T.pl rfl rfl rfl rfl ?_
  refine mj_T.call (ins := .invokestatic 240) rfl rfl (Nat.le_of_ble_eq_true rfl) (Nat.le_of_ble_eq_true rfl) rfl rfl (mj_Ok.up (by decide) (rp_isPrime hy)) (fun v' h' hq' => ?_) (fun i h' hq' => by rcases hq' with ⟨_, _, h⟩ | ⟨_, h⟩ <;> cases h)
  rcases hq' with ⟨y1, y2, hq'⟩ | ⟨_, hq'⟩
  case' inr =>
    cases hq'
    refine mj_T.if0 (a := 0) rfl ⟨by decide, by decide⟩ (fun hc => ?_) (fun hc => ?_)
    · simp [jc] at hc
    iterate 2 refine mj_T.pl rfl rfl rfl rfl ?_
    refine mj_T.call (ins := .invokevirtual 198) rfl rfl (Nat.le_of_ble_eq_true rfl) (Nat.le_of_ble_eq_true rfl) (by simp [mj_recv, rS_f hs10]) rfl (mj_Ok.up (by decide) (rp_fails (D := 0) (c := 2) hs10)) (fun v' g12 hq' => ?_) (fun i h' hq' => by obtain ⟨_, _, h⟩ := hq'; cases h)
    obtain ⟨_, hs12, hq'⟩ := hq'
    cases hq'
    exact mj_T.ret rfl rfl rfl ⟨0, g12, ⟨by decide, by decide⟩, rfl, ⟨_, N, B, X, V, hs12, K10.put ⟨by decide, by decide⟩ (by decide) (by decide) (by decide) (by decide) (by decide)⟩⟩
  cases hq'
  refine mj_T.if0 (a := 1) rfl ⟨by decide, by decide⟩ (fun hc => ?_) (fun hc => ?_)
  rotate_left
  · simp [jc] at hc
  obtain ⟨y, rfl⟩ := Int.eq_ofNat_of_zero_le (show 0 ≤ y by omega)
  iterate 4 refine mj_T.pl rfl rfl rfl rfl ?_
  exact rx_rsb_loop (by omega) (by omega) (by omega) hs10 K10 y 0 0 (by omega) (by decide)
theorem rx_rtb_loop {S N B X V : Nat → Int} {r z : Nat} (hr : r ≤ 5) (hz : 2 ≤ z) (hz2 : z ≤ 97) (hs : rS S N B T X V h) (K : jKx N0 u0 H tm er S N B T) :
    ∀ (m k : Nat), k + m = z → mj_T 39 mj_m282 33 [some (.ref 0), some (.int (jn (r : Int))), some (.int (jn (z : Int))), some (.int (jn (k : Int)))] [] h (rIx N0 u0 H tm er T) := by
  intro m
  induction m with
  | zero =>
    intro k hk
    iterate 2 refine mj_T.pl rfl rfl rfl rfl ?_
    refine mj_T.icmp (a := (k : Int)) (b := (z : Int)) rfl ⟨by omega, by omega⟩ ⟨by omega, by omega⟩ (fun hc2 => ?_) (fun hc2 => ?_)
    rotate_left
    · simp only [jc, decide_eq_false_iff_not] at hc2
      omega
    iterate 2 refine mj_T.pl rfl rfl rfl rfl ?_
    refine mj_T.call (ins := .invokevirtual 198) rfl rfl (Nat.le_of_ble_eq_true rfl) (Nat.le_of_ble_eq_true rfl) (by simp [mj_recv, rS_f hs]) rfl (mj_Ok.up (by decide) (rp_fails (D := 0) (c := 3) hs)) (fun v' g13 hq' => ?_) (fun i h' hq' => by obtain ⟨_, _, h⟩ := hq'; cases h)
    obtain ⟨_, hs13, hq'⟩ := hq'
    cases hq'
    exact mj_T.ret rfl rfl rfl ⟨0, g13, ⟨by decide, by decide⟩, rfl, ⟨_, N, B, X, V, hs13, K.put ⟨by decide, by decide⟩ (by decide) (by decide) (by decide) (by decide) (by decide)⟩⟩
  | succ m ih =>
    intro k hk
    iterate 2 refine mj_T.pl rfl rfl rfl rfl ?_
    refine mj_T.icmp (a := (k : Int)) (b := (z : Int)) rfl ⟨by omega, by omega⟩ ⟨by omega, by omega⟩ (fun hc2 => ?_) (fun hc2 => ?_)
    · simp only [jc, decide_eq_true_eq] at hc2
      omega
    iterate 4 refine mj_T.pl rfl rfl rfl rfl ?_
    refine mj_T.call (ins := .invokevirtual 341) rfl rfl (Nat.le_of_ble_eq_true rfl) (Nat.le_of_ble_eq_true rfl) (by simp [mj_recv, rS_f hs]) rfl (mj_Ok.up (by decide) (rp_isRootBy (r := r) (x := k) (z := z) hr (by omega) hz hz2 K.nR hs)) (fun v' h' hq' => ?_) (fun i h' hq' => by rcases hq' with ⟨_, h⟩ | ⟨_, h⟩ <;> cases h)
    rcases hq' with ⟨_, hq'⟩ | ⟨_, hq'⟩
    · cases hq'
      refine mj_T.if0 (a := 0) rfl ⟨by decide, by decide⟩ (fun hc => ?_) (fun hc => ?_)
      rotate_left
      · simp [jc] at hc
      refine mj_T.iinc (a := (k : Int)) rfl rfl ?_
      refine mj_T.pl rfl rfl rfl rfl ?_
      exact ih (k + 1) (by omega)
    · cases hq'
      refine mj_T.if0 (a := 1) rfl ⟨by decide, by decide⟩ (fun hc => ?_) (fun hc => ?_)
      · simp [jc] at hc
      refine mj_T.pl rfl rfl rfl rfl ?_
      exact mj_T.ret rfl rfl rfl ⟨(k : Int), h, ⟨by omega, by omega⟩, rfl, ⟨_, _, _, _, _, hs, K⟩⟩
theorem rx_rootBy {x y : Int} (hx : jr x) (hy : jr y) (hI : jIx N0 u0 H tm er T h) : mj_Ok 40 282 [.ref 0, .int (jn x), .int (jn y)] h (rIx N0 u0 H tm er T) := by
  refine mj_Ok.of (M := mj_m282) rfl rfl rfl ?_
  obtain ⟨S, N, B, X, V, hs, K⟩ := hI
  iterate 2 refine mj_T.pl rfl rfl rfl rfl ?_
  refine rT_put (v := 0) hs rfl rfl (by decide) rfl (fun g14 hs14 => ?_)
  have K14 := K.put (k := 3) (v := 0) ⟨by decide, by decide⟩ (by decide) (by decide) (by decide) (by decide) (by decide)
  generalize jvu S 3 0 = S14 at hs14 K14
  refine mj_T.pl rfl rfl rfl rfl ?_
  refine mj_T.call (ins := .invokestatic 181) rfl rfl (Nat.le_of_ble_eq_true rfl) (Nat.le_of_ble_eq_true rfl) rfl rfl (mj_Ok.up (by decide) (rp_isRegister (D := 0) hx)) (fun v' h' hq' => ?_) (fun i h' hq' => by rcases hq' with ⟨_, _, h⟩ | ⟨_, h⟩ <;> cases h)
  rcases hq' with ⟨x1, x2, hq'⟩ | ⟨_, hq'⟩
  case' inr =>
    cases hq'
    refine mj_T.if0 (a := 0) rfl ⟨by decide, by decide⟩ (fun hc => ?_) (fun hc => ?_)
    · simp [jc] at hc
    iterate 2 refine mj_T.pl rfl rfl rfl rfl ?_
    refine mj_T.call (ins := .invokevirtual 198) rfl rfl (Nat.le_of_ble_eq_true rfl) (Nat.le_of_ble_eq_true rfl) (by simp [mj_recv, rS_f hs14]) rfl (mj_Ok.up (by decide) (rp_fails (D := 0) (c := 1) hs14)) (fun v' g15 hq' => ?_) (fun i h' hq' => by obtain ⟨_, _, h⟩ := hq'; cases h)
    obtain ⟨_, hs15, hq'⟩ := hq'
    cases hq'
    exact mj_T.ret rfl rfl rfl ⟨0, g15, ⟨by decide, by decide⟩, rfl, ⟨_, N, B, X, V, hs15, K14.put ⟨by decide, by decide⟩ (by decide) (by decide) (by decide) (by decide) (by decide)⟩⟩
  cases hq'
  refine mj_T.if0 (a := 1) rfl ⟨by decide, by decide⟩ (fun hc => ?_) (fun hc => ?_)
  rotate_left
  · simp [jc] at hc
  obtain ⟨x, rfl⟩ := Int.eq_ofNat_of_zero_le x1
  refine mj_T.pl rfl rfl rfl rfl ?_
  refine mj_T.call (ins := .invokestatic 240) rfl rfl (Nat.le_of_ble_eq_true rfl) (Nat.le_of_ble_eq_true rfl) rfl rfl (mj_Ok.up (by decide) (rp_isPrime hy)) (fun v' h' hq' => ?_) (fun i h' hq' => by rcases hq' with ⟨_, _, h⟩ | ⟨_, h⟩ <;> cases h)
  rcases hq' with ⟨y1, y2, hq'⟩ | ⟨_, hq'⟩
  case' inr =>
    cases hq'
    refine mj_T.if0 (a := 0) rfl ⟨by decide, by decide⟩ (fun hc => ?_) (fun hc => ?_)
    · simp [jc] at hc
    iterate 2 refine mj_T.pl rfl rfl rfl rfl ?_
    refine mj_T.call (ins := .invokevirtual 198) rfl rfl (Nat.le_of_ble_eq_true rfl) (Nat.le_of_ble_eq_true rfl) (by simp [mj_recv, rS_f hs14]) rfl (mj_Ok.up (by decide) (rp_fails (D := 0) (c := 2) hs14)) (fun v' g16 hq' => ?_) (fun i h' hq' => by obtain ⟨_, _, h⟩ := hq'; cases h)
    obtain ⟨_, hs16, hq'⟩ := hq'
    cases hq'
    exact mj_T.ret rfl rfl rfl ⟨0, g16, ⟨by decide, by decide⟩, rfl, ⟨_, N, B, X, V, hs16, K14.put ⟨by decide, by decide⟩ (by decide) (by decide) (by decide) (by decide) (by decide)⟩⟩
  cases hq'
  refine mj_T.if0 (a := 1) rfl ⟨by decide, by decide⟩ (fun hc => ?_) (fun hc => ?_)
  rotate_left
  · simp [jc] at hc
  obtain ⟨y, rfl⟩ := Int.eq_ofNat_of_zero_le (show 0 ≤ y by omega)
  iterate 2 refine mj_T.pl rfl rfl rfl rfl ?_
  exact rx_rtb_loop (by omega) (by omega) (by omega) hs14 K14 y 0 (by omega)
theorem rx_realRoots {x : Int} (hx : jr x) (hI : jIx N0 u0 H tm er T h) : mj_Ok 40 271 [.ref 0, .int (jn x)] h (rIx N0 u0 H tm er T) := by
  refine mj_Ok.of (M := mj_m271) rfl rfl rfl ?_
  obtain ⟨S, N, B, X, V, hs, K⟩ := hI
  iterate 2 refine mj_T.pl rfl rfl rfl rfl ?_
  refine rT_put (v := 0) hs rfl rfl (by decide) rfl (fun g1 hs1 => ?_)
  have K1 := K.put (k := 3) (v := 0) ⟨by decide, by decide⟩ (by decide) (by decide) (by decide) (by decide) (by decide)
  generalize jvu S 3 0 = S1 at hs1 K1
  refine mj_T.pl rfl rfl rfl rfl ?_
  refine mj_T.call (ins := .invokestatic 181) rfl rfl (Nat.le_of_ble_eq_true rfl) (Nat.le_of_ble_eq_true rfl) rfl rfl (mj_Ok.up (by decide) (rp_isRegister (D := 0) hx)) (fun v' h' hq' => ?_) (fun i h' hq' => by rcases hq' with ⟨_, _, h⟩ | ⟨_, h⟩ <;> cases h)
  rcases hq' with ⟨x1, x2, hq'⟩ | ⟨_, hq'⟩
  case' inr =>
    cases hq'
    refine mj_T.if0 (a := 0) rfl ⟨by decide, by decide⟩ (fun hc => ?_) (fun hc => ?_)
    · simp [jc] at hc
    iterate 2 refine mj_T.pl rfl rfl rfl rfl ?_
    refine mj_T.call (ins := .invokevirtual 198) rfl rfl (Nat.le_of_ble_eq_true rfl) (Nat.le_of_ble_eq_true rfl) (by simp [mj_recv, rS_f hs1]) rfl (mj_Ok.up (by decide) (rp_fails (D := 0) (c := 1) hs1)) (fun v' g2 hq' => ?_) (fun i h' hq' => by obtain ⟨_, _, h⟩ := hq'; cases h)
    obtain ⟨_, hs2, hq'⟩ := hq'
    cases hq'
    exact mj_T.ret rfl rfl rfl ⟨0, g2, ⟨by decide, by decide⟩, rfl, ⟨_, N, B, X, V, hs2, K1.put ⟨by decide, by decide⟩ (by decide) (by decide) (by decide) (by decide) (by decide)⟩⟩
  cases hq'
  refine mj_T.if0 (a := 1) rfl ⟨by decide, by decide⟩ (fun hc => ?_) (fun hc => ?_)
  rotate_left
  · simp [jc] at hc
  obtain ⟨x, rfl⟩ := Int.eq_ofNat_of_zero_le x1
  iterate 2 refine mj_T.pl rfl rfl rfl rfl ?_
  refine mj_T.call (ins := .invokevirtual 232) rfl rfl (Nat.le_of_ble_eq_true rfl) (Nat.le_of_ble_eq_true rfl) (by simp [mj_recv, rS_f hs1]) rfl (mj_Ok.up (by decide) (rp_isZero (D := 0) (r := x) (by omega) K1.nR hs1)) (fun v' h' hq' => ?_) (fun i h' hq' => by rcases hq' with ⟨_, h⟩ | ⟨_, h⟩ <;> cases h)
  rcases hq' with ⟨_, hq'⟩ | ⟨nz3, hq'⟩
  case' inl =>
    cases hq'
    refine mj_T.if0 (a := 1) rfl ⟨by decide, by decide⟩ (fun hc => ?_) (fun hc => ?_)
    · simp [jc] at hc
    iterate 2 refine mj_T.pl rfl rfl rfl rfl ?_
    refine mj_T.call (ins := .invokevirtual 198) rfl rfl (Nat.le_of_ble_eq_true rfl) (Nat.le_of_ble_eq_true rfl) (by simp [mj_recv, rS_f hs1]) rfl (mj_Ok.up (by decide) (rp_fails (D := 0) (c := 2) hs1)) (fun v' g4 hq' => ?_) (fun i h' hq' => by obtain ⟨_, _, h⟩ := hq'; cases h)
    obtain ⟨_, hs4, hq'⟩ := hq'
    cases hq'
    exact mj_T.ret rfl rfl rfl ⟨0, g4, ⟨by decide, by decide⟩, rfl, ⟨_, N, B, X, V, hs4, K1.put ⟨by decide, by decide⟩ (by decide) (by decide) (by decide) (by decide) (by decide)⟩⟩
  cases hq'
  refine mj_T.if0 (a := 0) rfl ⟨by decide, by decide⟩ (fun hc => ?_) (fun hc => ?_)
  rotate_left
  · simp [jc] at hc
  iterate 3 refine mj_T.pl rfl rfl rfl rfl ?_
  refine mj_T.call (ins := .invokevirtual 213) rfl rfl (Nat.le_of_ble_eq_true rfl) (Nat.le_of_ble_eq_true rfl) (by simp [mj_recv, rS_f hs1]) rfl (mj_Ok.up (by decide) (rp_loads (D := 0) (p := 0) (r := x) (by decide) (by omega) K1.nR hs1)) (fun v' g5 hq' => ?_) (fun i h' hq' => by obtain ⟨_, _, h⟩ := hq'; cases h)
  obtain ⟨_, hs5, hq'⟩ := hq'
  cases hq'
  have a5 : ∀ e, e < 13 → jfl V 0 (fun e => N (x * 13 + e)) 13 (0 * 13 + e) = N (x * 13 + e) := fun e he => jfl_at _ _ _ he
  have b5 : ∀ s, (s < 0 * 13 ∨ 0 * 13 + 13 ≤ s) → jfl V 0 (fun e => N (x * 13 + e)) 13 s = V s := fun s hc => jfl_off _ _ _ hc
  generalize jfl V 0 (fun e => N (x * 13 + e)) 13 = W5 at hs5 a5 b5
  have c1 : ∀ e, e < 13 → (W5 (0 * 13 + e)).natAbs ≤ 10 ^ 18 := fun e he => by
    rw [a5 e he]
    exact K1.sh (r := x) (by omega) he
  have c2 : jpo W5 0 ≠ pz_0 := jpo_ne_of (by rw [jdg_congr 13 a5]; exact nz3)
  iterate 2 refine mj_T.pl rfl rfl rfl rfl ?_
  refine mj_T.call (ins := .invokevirtual 324) rfl rfl (Nat.le_of_ble_eq_true rfl) (Nat.le_of_ble_eq_true rfl) (by simp [mj_recv, rS_f hs5]) rfl (mj_Ok.up (by decide) (jp_laysRow (D := 0) (rG S1 N B T X) (by show 7 < 16; decide) kq_fit51 rp_a51 (a := 0) (by decide) (by decide) (by decide) c2 (fun e he => by have := c1 e he; omega) hs5)) (fun v' g6 hq' => ?_) (fun i h' hq' => by obtain ⟨_, _, _, _, _, _, _, _, h⟩ := hq'; cases h)
  obtain ⟨k6, W6, _, hk6, hs6, hrow6, hf6, hn6, hq'⟩ := hq'
  cases hq'
  have hs6a : rS (jvu S1 7 ((k6 + 1 : Nat) : Int)) N B T X W6 g6 := hs6
  have K6 := K1.put (k := 7) (v := ((k6 + 1 : Nat) : Int)) ⟨by omega, by omega⟩ (by decide) (by decide) (by decide) (by decide) (by decide)
  have h76 : (rF (jvu S1 7 ((k6 + 1 : Nat) : Int)))[7]? = some (.int (jn ((k6 + 1 : Nat) : Int))) := rF7
  clear hs6
  generalize jvu S1 7 ((k6 + 1 : Nat) : Int) = S6 at hs6a K6 h76
  refine mj_T.pl rfl rfl rfl rfl ?_
  refine mj_T.call (ins := .invokevirtual 327) rfl rfl (Nat.le_of_ble_eq_true rfl) (Nat.le_of_ble_eq_true rfl) (by simp [mj_recv, rS_f hs6a]) rfl (mj_Ok.up (by decide) (jp_rootsOf (D := 0) (rG S6 N B T X) h76 hk6 hrow6 hs6a)) (fun v' g7 hq' => ?_) (fun i h' hq' => by obtain ⟨_, _, _, _, _, _, _, h⟩ := hq'; cases h)
  obtain ⟨W7, _, z7, hs7, f7, z7a, z7b, hq'⟩ := hq'
  cases hq'
  exact mj_T.ret rfl rfl rfl ⟨z7, g7, ⟨by omega, by omega⟩, rfl, ⟨S6, N, B, X, W7, hs7, K6⟩⟩
theorem rx_sturmLength {x : Int} (hx : jr x) (hI : jIx N0 u0 H tm er T h) : mj_Ok 40 273 [.ref 0, .int (jn x)] h (rIx N0 u0 H tm er T) := by
  refine mj_Ok.of (M := mj_m273) rfl rfl rfl ?_
  obtain ⟨S, N, B, X, V, hs, K⟩ := hI
  iterate 2 refine mj_T.pl rfl rfl rfl rfl ?_
  refine rT_put (v := 0) hs rfl rfl (by decide) rfl (fun g8 hs8 => ?_)
  have K8 := K.put (k := 3) (v := 0) ⟨by decide, by decide⟩ (by decide) (by decide) (by decide) (by decide) (by decide)
  generalize jvu S 3 0 = S8 at hs8 K8
  refine mj_T.pl rfl rfl rfl rfl ?_
  refine mj_T.call (ins := .invokestatic 181) rfl rfl (Nat.le_of_ble_eq_true rfl) (Nat.le_of_ble_eq_true rfl) rfl rfl (mj_Ok.up (by decide) (rp_isRegister (D := 0) hx)) (fun v' h' hq' => ?_) (fun i h' hq' => by rcases hq' with ⟨_, _, h⟩ | ⟨_, h⟩ <;> cases h)
  rcases hq' with ⟨x1, x2, hq'⟩ | ⟨_, hq'⟩
  case' inr =>
    cases hq'
    refine mj_T.if0 (a := 0) rfl ⟨by decide, by decide⟩ (fun hc => ?_) (fun hc => ?_)
    · simp [jc] at hc
    iterate 2 refine mj_T.pl rfl rfl rfl rfl ?_
    refine mj_T.call (ins := .invokevirtual 198) rfl rfl (Nat.le_of_ble_eq_true rfl) (Nat.le_of_ble_eq_true rfl) (by simp [mj_recv, rS_f hs8]) rfl (mj_Ok.up (by decide) (rp_fails (D := 0) (c := 1) hs8)) (fun v' g9 hq' => ?_) (fun i h' hq' => by obtain ⟨_, _, h⟩ := hq'; cases h)
    obtain ⟨_, hs9, hq'⟩ := hq'
    cases hq'
    exact mj_T.ret rfl rfl rfl ⟨0, g9, ⟨by decide, by decide⟩, rfl, ⟨_, N, B, X, V, hs9, K8.put ⟨by decide, by decide⟩ (by decide) (by decide) (by decide) (by decide) (by decide)⟩⟩
  cases hq'
  refine mj_T.if0 (a := 1) rfl ⟨by decide, by decide⟩ (fun hc => ?_) (fun hc => ?_)
  rotate_left
  · simp [jc] at hc
  obtain ⟨x, rfl⟩ := Int.eq_ofNat_of_zero_le x1
  iterate 2 refine mj_T.pl rfl rfl rfl rfl ?_
  refine mj_T.call (ins := .invokevirtual 232) rfl rfl (Nat.le_of_ble_eq_true rfl) (Nat.le_of_ble_eq_true rfl) (by simp [mj_recv, rS_f hs8]) rfl (mj_Ok.up (by decide) (rp_isZero (D := 0) (r := x) (by omega) K8.nR hs8)) (fun v' h' hq' => ?_) (fun i h' hq' => by rcases hq' with ⟨_, h⟩ | ⟨_, h⟩ <;> cases h)
  rcases hq' with ⟨_, hq'⟩ | ⟨nz10, hq'⟩
  case' inl =>
    cases hq'
    refine mj_T.if0 (a := 1) rfl ⟨by decide, by decide⟩ (fun hc => ?_) (fun hc => ?_)
    · simp [jc] at hc
    iterate 2 refine mj_T.pl rfl rfl rfl rfl ?_
    refine mj_T.call (ins := .invokevirtual 198) rfl rfl (Nat.le_of_ble_eq_true rfl) (Nat.le_of_ble_eq_true rfl) (by simp [mj_recv, rS_f hs8]) rfl (mj_Ok.up (by decide) (rp_fails (D := 0) (c := 2) hs8)) (fun v' g11 hq' => ?_) (fun i h' hq' => by obtain ⟨_, _, h⟩ := hq'; cases h)
    obtain ⟨_, hs11, hq'⟩ := hq'
    cases hq'
    exact mj_T.ret rfl rfl rfl ⟨0, g11, ⟨by decide, by decide⟩, rfl, ⟨_, N, B, X, V, hs11, K8.put ⟨by decide, by decide⟩ (by decide) (by decide) (by decide) (by decide) (by decide)⟩⟩
  cases hq'
  refine mj_T.if0 (a := 0) rfl ⟨by decide, by decide⟩ (fun hc => ?_) (fun hc => ?_)
  rotate_left
  · simp [jc] at hc
  iterate 3 refine mj_T.pl rfl rfl rfl rfl ?_
  refine mj_T.call (ins := .invokevirtual 213) rfl rfl (Nat.le_of_ble_eq_true rfl) (Nat.le_of_ble_eq_true rfl) (by simp [mj_recv, rS_f hs8]) rfl (mj_Ok.up (by decide) (rp_loads (D := 0) (p := 0) (r := x) (by decide) (by omega) K8.nR hs8)) (fun v' g12 hq' => ?_) (fun i h' hq' => by obtain ⟨_, _, h⟩ := hq'; cases h)
  obtain ⟨_, hs12, hq'⟩ := hq'
  cases hq'
  have a12 : ∀ e, e < 13 → jfl V 0 (fun e => N (x * 13 + e)) 13 (0 * 13 + e) = N (x * 13 + e) := fun e he => jfl_at _ _ _ he
  have b12 : ∀ s, (s < 0 * 13 ∨ 0 * 13 + 13 ≤ s) → jfl V 0 (fun e => N (x * 13 + e)) 13 s = V s := fun s hc => jfl_off _ _ _ hc
  generalize jfl V 0 (fun e => N (x * 13 + e)) 13 = W12 at hs12 a12 b12
  have c1 : ∀ e, e < 13 → (W12 (0 * 13 + e)).natAbs ≤ 10 ^ 18 := fun e he => by
    rw [a12 e he]
    exact K8.sh (r := x) (by omega) he
  have c2 : jpo W12 0 ≠ pz_0 := jpo_ne_of (by rw [jdg_congr 13 a12]; exact nz10)
  iterate 2 refine mj_T.pl rfl rfl rfl rfl ?_
  refine mj_T.call (ins := .invokevirtual 324) rfl rfl (Nat.le_of_ble_eq_true rfl) (Nat.le_of_ble_eq_true rfl) (by simp [mj_recv, rS_f hs12]) rfl (mj_Ok.up (by decide) (jp_laysRow (D := 0) (rG S8 N B T X) (by show 7 < 16; decide) kq_fit51 rp_a51 (a := 0) (by decide) (by decide) (by decide) c2 (fun e he => by have := c1 e he; omega) hs12)) (fun v' g13 hq' => ?_) (fun i h' hq' => by obtain ⟨_, _, _, _, _, _, _, _, h⟩ := hq'; cases h)
  obtain ⟨k13, W13, _, hk13, hs13, hrow13, hf13, hn13, hq'⟩ := hq'
  cases hq'
  have hs13a : rS (jvu S8 7 ((k13 + 1 : Nat) : Int)) N B T X W13 g13 := hs13
  have K13 := K8.put (k := 7) (v := ((k13 + 1 : Nat) : Int)) ⟨by omega, by omega⟩ (by decide) (by decide) (by decide) (by decide) (by decide)
  have h713 : (rF (jvu S8 7 ((k13 + 1 : Nat) : Int)))[7]? = some (.int (jn ((k13 + 1 : Nat) : Int))) := rF7
  clear hs13
  generalize jvu S8 7 ((k13 + 1 : Nat) : Int) = S13 at hs13a K13 h713
  refine mj_T.pl rfl rfl rfl rfl ?_
  refine rT_get hs13a rfl h713 ?_
  exact mj_T.ret rfl rfl rfl ⟨_, g13, ⟨by omega, by omega⟩, rfl, ⟨S13, N, B, X, W13, hs13a, K13⟩⟩
theorem rx_changes {x y z : Int} (hx : jr x) (hy : jr y) (hz : jr z) (hI : jIx N0 u0 H tm er T h) : mj_Ok 40 274 [.ref 0, .int (jn x), .int (jn y), .int (jn z)] h (rIx N0 u0 H tm er T) := by
  refine mj_Ok.of (M := mj_m274) rfl rfl rfl ?_
  obtain ⟨S, N, B, X, V, hs, K⟩ := hI
  iterate 2 refine mj_T.pl rfl rfl rfl rfl ?_
  refine rT_put (v := 0) hs rfl rfl (by decide) rfl (fun g14 hs14 => ?_)
  have K14 := K.put (k := 3) (v := 0) ⟨by decide, by decide⟩ (by decide) (by decide) (by decide) (by decide) (by decide)
  generalize jvu S 3 0 = S14 at hs14 K14
  refine mj_T.pl rfl rfl rfl rfl ?_
  refine mj_T.call (ins := .invokestatic 181) rfl rfl (Nat.le_of_ble_eq_true rfl) (Nat.le_of_ble_eq_true rfl) rfl rfl (mj_Ok.up (by decide) (rp_isRegister (D := 0) hx)) (fun v' h' hq' => ?_) (fun i h' hq' => by rcases hq' with ⟨_, _, h⟩ | ⟨_, h⟩ <;> cases h)
  rcases hq' with ⟨x1, x2, hq'⟩ | ⟨_, hq'⟩
  case' inr =>
    cases hq'
    refine mj_T.if0 (a := 0) rfl ⟨by decide, by decide⟩ (fun hc => ?_) (fun hc => ?_)
    · simp [jc] at hc
    iterate 2 refine mj_T.pl rfl rfl rfl rfl ?_
    refine mj_T.call (ins := .invokevirtual 198) rfl rfl (Nat.le_of_ble_eq_true rfl) (Nat.le_of_ble_eq_true rfl) (by simp [mj_recv, rS_f hs14]) rfl (mj_Ok.up (by decide) (rp_fails (D := 0) (c := 1) hs14)) (fun v' g15 hq' => ?_) (fun i h' hq' => by obtain ⟨_, _, h⟩ := hq'; cases h)
    obtain ⟨_, hs15, hq'⟩ := hq'
    cases hq'
    exact mj_T.ret rfl rfl rfl ⟨0, g15, ⟨by decide, by decide⟩, rfl, ⟨_, N, B, X, V, hs15, K14.put ⟨by decide, by decide⟩ (by decide) (by decide) (by decide) (by decide) (by decide)⟩⟩
  cases hq'
  refine mj_T.if0 (a := 1) rfl ⟨by decide, by decide⟩ (fun hc => ?_) (fun hc => ?_)
  rotate_left
  · simp [jc] at hc
  obtain ⟨x, rfl⟩ := Int.eq_ofNat_of_zero_le x1
  iterate 2 refine mj_T.pl rfl rfl rfl rfl ?_
  refine mj_T.call (ins := .invokestatic 302) rfl rfl (Nat.le_of_ble_eq_true rfl) (Nat.le_of_ble_eq_true rfl) rfl rfl (mj_Ok.up (by decide) (rp_isFraction hy hz)) (fun v' h' hq' => ?_) (fun i h' hq' => by rcases hq' with ⟨_, _, h⟩ | ⟨_, h⟩ <;> cases h)
  rcases hq' with ⟨⟨y1, y2⟩, ⟨z1, z2⟩, hq'⟩ | ⟨_, hq'⟩
  case' inr =>
    cases hq'
    refine mj_T.if0 (a := 0) rfl ⟨by decide, by decide⟩ (fun hc => ?_) (fun hc => ?_)
    · simp [jc] at hc
    iterate 2 refine mj_T.pl rfl rfl rfl rfl ?_
    refine mj_T.call (ins := .invokevirtual 198) rfl rfl (Nat.le_of_ble_eq_true rfl) (Nat.le_of_ble_eq_true rfl) (by simp [mj_recv, rS_f hs14]) rfl (mj_Ok.up (by decide) (rp_fails (D := 0) (c := 2) hs14)) (fun v' g16 hq' => ?_) (fun i h' hq' => by obtain ⟨_, _, h⟩ := hq'; cases h)
    obtain ⟨_, hs16, hq'⟩ := hq'
    cases hq'
    exact mj_T.ret rfl rfl rfl ⟨0, g16, ⟨by decide, by decide⟩, rfl, ⟨_, N, B, X, V, hs16, K14.put ⟨by decide, by decide⟩ (by decide) (by decide) (by decide) (by decide) (by decide)⟩⟩
  cases hq'
  refine mj_T.if0 (a := 1) rfl ⟨by decide, by decide⟩ (fun hc => ?_) (fun hc => ?_)
  rotate_left
  · simp [jc] at hc
  iterate 2 refine mj_T.pl rfl rfl rfl rfl ?_
  refine mj_T.call (ins := .invokevirtual 232) rfl rfl (Nat.le_of_ble_eq_true rfl) (Nat.le_of_ble_eq_true rfl) (by simp [mj_recv, rS_f hs14]) rfl (mj_Ok.up (by decide) (rp_isZero (D := 0) (r := x) (by omega) K14.nR hs14)) (fun v' h' hq' => ?_) (fun i h' hq' => by rcases hq' with ⟨_, h⟩ | ⟨_, h⟩ <;> cases h)
  rcases hq' with ⟨_, hq'⟩ | ⟨nz17, hq'⟩
  case' inl =>
    cases hq'
    refine mj_T.if0 (a := 1) rfl ⟨by decide, by decide⟩ (fun hc => ?_) (fun hc => ?_)
    · simp [jc] at hc
    iterate 2 refine mj_T.pl rfl rfl rfl rfl ?_
    refine mj_T.call (ins := .invokevirtual 198) rfl rfl (Nat.le_of_ble_eq_true rfl) (Nat.le_of_ble_eq_true rfl) (by simp [mj_recv, rS_f hs14]) rfl (mj_Ok.up (by decide) (rp_fails (D := 0) (c := 3) hs14)) (fun v' g18 hq' => ?_) (fun i h' hq' => by obtain ⟨_, _, h⟩ := hq'; cases h)
    obtain ⟨_, hs18, hq'⟩ := hq'
    cases hq'
    exact mj_T.ret rfl rfl rfl ⟨0, g18, ⟨by decide, by decide⟩, rfl, ⟨_, N, B, X, V, hs18, K14.put ⟨by decide, by decide⟩ (by decide) (by decide) (by decide) (by decide) (by decide)⟩⟩
  cases hq'
  refine mj_T.if0 (a := 0) rfl ⟨by decide, by decide⟩ (fun hc => ?_) (fun hc => ?_)
  rotate_left
  · simp [jc] at hc
  iterate 3 refine mj_T.pl rfl rfl rfl rfl ?_
  refine mj_T.call (ins := .invokevirtual 213) rfl rfl (Nat.le_of_ble_eq_true rfl) (Nat.le_of_ble_eq_true rfl) (by simp [mj_recv, rS_f hs14]) rfl (mj_Ok.up (by decide) (rp_loads (D := 0) (p := 0) (r := x) (by decide) (by omega) K14.nR hs14)) (fun v' g19 hq' => ?_) (fun i h' hq' => by obtain ⟨_, _, h⟩ := hq'; cases h)
  obtain ⟨_, hs19, hq'⟩ := hq'
  cases hq'
  have a19 : ∀ e, e < 13 → jfl V 0 (fun e => N (x * 13 + e)) 13 (0 * 13 + e) = N (x * 13 + e) := fun e he => jfl_at _ _ _ he
  have b19 : ∀ s, (s < 0 * 13 ∨ 0 * 13 + 13 ≤ s) → jfl V 0 (fun e => N (x * 13 + e)) 13 s = V s := fun s hc => jfl_off _ _ _ hc
  generalize jfl V 0 (fun e => N (x * 13 + e)) 13 = W19 at hs19 a19 b19
  have c1 : ∀ e, e < 13 → (W19 (0 * 13 + e)).natAbs ≤ 10 ^ 18 := fun e he => by
    rw [a19 e he]
    exact K14.sh (r := x) (by omega) he
  have c2 : jpo W19 0 ≠ pz_0 := jpo_ne_of (by rw [jdg_congr 13 a19]; exact nz17)
  iterate 2 refine mj_T.pl rfl rfl rfl rfl ?_
  refine mj_T.call (ins := .invokevirtual 324) rfl rfl (Nat.le_of_ble_eq_true rfl) (Nat.le_of_ble_eq_true rfl) (by simp [mj_recv, rS_f hs19]) rfl (mj_Ok.up (by decide) (jp_laysRow (D := 0) (rG S14 N B T X) (by show 7 < 16; decide) kq_fit51 rp_a51 (a := 0) (by decide) (by decide) (by decide) c2 (fun e he => by have := c1 e he; omega) hs19)) (fun v' g20 hq' => ?_) (fun i h' hq' => by obtain ⟨_, _, _, _, _, _, _, _, h⟩ := hq'; cases h)
  obtain ⟨k20, W20, _, hk20, hs20, hrow20, hf20, hn20, hq'⟩ := hq'
  cases hq'
  have hs20a : rS (jvu S14 7 ((k20 + 1 : Nat) : Int)) N B T X W20 g20 := hs20
  have K20 := K14.put (k := 7) (v := ((k20 + 1 : Nat) : Int)) ⟨by omega, by omega⟩ (by decide) (by decide) (by decide) (by decide) (by decide)
  have h720 : (rF (jvu S14 7 ((k20 + 1 : Nat) : Int)))[7]? = some (.int (jn ((k20 + 1 : Nat) : Int))) := rF7
  clear hs20
  generalize jvu S14 7 ((k20 + 1 : Nat) : Int) = S20 at hs20a K20 h720
  iterate 3 refine mj_T.pl rfl rfl rfl rfl ?_
  refine mj_T.call (ins := .invokevirtual 305) rfl rfl (Nat.le_of_ble_eq_true rfl) (Nat.le_of_ble_eq_true rfl) (by simp [mj_recv, rS_f hs20a]) rfl (mj_Ok.up (by decide) (rp_setsFraction (D := 0) (x := y) (y := z) hy hz hs20a)) (fun v' g21 hq' => ?_) (fun i h' hq' => by obtain ⟨_, _, _, _, _, _, h⟩ := hq'; cases h)
  obtain ⟨W21, _, hs21, x21a, x21b, x21c, hq'⟩ := hq'
  cases hq'
  iterate 2 refine mj_T.pl rfl rfl rfl rfl ?_
  refine mj_T.call (ins := .invokevirtual 165) rfl rfl (Nat.le_of_ble_eq_true rfl) (Nat.le_of_ble_eq_true rfl) (by simp [mj_recv, rS_f hs21]) rfl (mj_Ok.up (by decide) (jp_changesAt (D := 0) (V := W21) (rG S20 N B T X) h720 hk20 (way := 0) (x := 1000) (by decide) (jrows_keep hrow20 hk20 (fun s hlt => x21c _ (by omega) (by omega))) (fun _ => ⟨by rw [x21a]; omega, by rw [x21b]; omega, by decide, rp_cr1, rp_fitv2⟩) hs21)) (fun v' g22 hq' => ?_) (fun i h' hq' => by obtain ⟨_, _, _, _, _, _, _, h⟩ := hq'; cases h)
  obtain ⟨W22, _, z22, hs22, f22, z22a, z22b, hq'⟩ := hq'
  cases hq'
  exact mj_T.ret rfl rfl rfl ⟨z22, g22, ⟨by omega, by omega⟩, rfl, ⟨S20, N, B, X, W22, hs22, K20⟩⟩
theorem rx_rootsBetween {x y z u w : Int} (hx : jr x) (hy : jr y) (hz : jr z) (hu : jr u) (hw : jr w) (hI : jIx N0 u0 H tm er T h) : mj_Ok 40 272 [.ref 0, .int (jn x), .int (jn y), .int (jn z), .int (jn u), .int (jn w)] h (rIx N0 u0 H tm er T) := by
  refine mj_Ok.of (M := mj_m272) rfl rfl rfl ?_
  obtain ⟨S, N, B, X, V, hs, K⟩ := hI
  iterate 2 refine mj_T.pl rfl rfl rfl rfl ?_
  refine rT_put (v := 0) hs rfl rfl (by decide) rfl (fun g23 hs23 => ?_)
  have K23 := K.put (k := 3) (v := 0) ⟨by decide, by decide⟩ (by decide) (by decide) (by decide) (by decide) (by decide)
  generalize jvu S 3 0 = S23 at hs23 K23
  refine mj_T.pl rfl rfl rfl rfl ?_
  refine mj_T.call (ins := .invokestatic 181) rfl rfl (Nat.le_of_ble_eq_true rfl) (Nat.le_of_ble_eq_true rfl) rfl rfl (mj_Ok.up (by decide) (rp_isRegister (D := 0) hx)) (fun v' h' hq' => ?_) (fun i h' hq' => by rcases hq' with ⟨_, _, h⟩ | ⟨_, h⟩ <;> cases h)
  rcases hq' with ⟨x1, x2, hq'⟩ | ⟨_, hq'⟩
  case' inr =>
    cases hq'
    refine mj_T.if0 (a := 0) rfl ⟨by decide, by decide⟩ (fun hc => ?_) (fun hc => ?_)
    · simp [jc] at hc
    iterate 2 refine mj_T.pl rfl rfl rfl rfl ?_
    refine mj_T.call (ins := .invokevirtual 198) rfl rfl (Nat.le_of_ble_eq_true rfl) (Nat.le_of_ble_eq_true rfl) (by simp [mj_recv, rS_f hs23]) rfl (mj_Ok.up (by decide) (rp_fails (D := 0) (c := 1) hs23)) (fun v' g24 hq' => ?_) (fun i h' hq' => by obtain ⟨_, _, h⟩ := hq'; cases h)
    obtain ⟨_, hs24, hq'⟩ := hq'
    cases hq'
    exact mj_T.ret rfl rfl rfl ⟨0, g24, ⟨by decide, by decide⟩, rfl, ⟨_, N, B, X, V, hs24, K23.put ⟨by decide, by decide⟩ (by decide) (by decide) (by decide) (by decide) (by decide)⟩⟩
  cases hq'
  refine mj_T.if0 (a := 1) rfl ⟨by decide, by decide⟩ (fun hc => ?_) (fun hc => ?_)
  rotate_left
  · simp [jc] at hc
  obtain ⟨x, rfl⟩ := Int.eq_ofNat_of_zero_le x1
  have t47 : mj_T 39 mj_m272 47 [some (.ref 0), some (.int (jn (x : Int))), some (.int (jn y)), some (.int (jn z)), some (.int (jn u)), some (.int (jn w)), none, none] [] g23 (rIx N0 u0 H tm er T) := by
    iterate 2 refine mj_T.pl rfl rfl rfl rfl ?_
    refine mj_T.call (ins := .invokevirtual 198) rfl rfl (Nat.le_of_ble_eq_true rfl) (Nat.le_of_ble_eq_true rfl) (by simp [mj_recv, rS_f hs23]) rfl (mj_Ok.up (by decide) (rp_fails (D := 0) (c := 2) hs23)) (fun v' g25 hq' => ?_) (fun i h' hq' => by obtain ⟨_, _, h⟩ := hq'; cases h)
    obtain ⟨_, hs25, hq'⟩ := hq'
    cases hq'
    exact mj_T.ret rfl rfl rfl ⟨0, g25, ⟨by decide, by decide⟩, rfl, ⟨_, N, B, X, V, hs25, K23.put ⟨by decide, by decide⟩ (by decide) (by decide) (by decide) (by decide) (by decide)⟩⟩
  iterate 2 refine mj_T.pl rfl rfl rfl rfl ?_
  refine mj_T.call (ins := .invokestatic 302) rfl rfl (Nat.le_of_ble_eq_true rfl) (Nat.le_of_ble_eq_true rfl) rfl rfl (mj_Ok.up (by decide) (rp_isFraction hy hz)) (fun v' h' hq' => ?_) (fun i h' hq' => by rcases hq' with ⟨_, _, h⟩ | ⟨_, h⟩ <;> cases h)
  rcases hq' with ⟨⟨y1, y2⟩, ⟨z1, z2⟩, hq'⟩ | ⟨_, hq'⟩
  case' inr =>
    cases hq'
    refine mj_T.if0 (a := 0) rfl ⟨by decide, by decide⟩ (fun hc => ?_) (fun hc => ?_)
    · exact t47
    · simp [jc] at hc
  cases hq'
  refine mj_T.if0 (a := 1) rfl ⟨by decide, by decide⟩ (fun hc => ?_) (fun hc => ?_)
  · simp [jc] at hc
  iterate 2 refine mj_T.pl rfl rfl rfl rfl ?_
  refine mj_T.call (ins := .invokestatic 302) rfl rfl (Nat.le_of_ble_eq_true rfl) (Nat.le_of_ble_eq_true rfl) rfl rfl (mj_Ok.up (by decide) (rp_isFraction hu hw)) (fun v' h' hq' => ?_) (fun i h' hq' => by rcases hq' with ⟨_, _, h⟩ | ⟨_, h⟩ <;> cases h)
  rcases hq' with ⟨⟨u1, u2⟩, ⟨w1, w2⟩, hq'⟩ | ⟨_, hq'⟩
  case' inr =>
    cases hq'
    refine mj_T.if0 (a := 0) rfl ⟨by decide, by decide⟩ (fun hc => ?_) (fun hc => ?_)
    · exact t47
    · simp [jc] at hc
  cases hq'
  refine mj_T.if0 (a := 1) rfl ⟨by decide, by decide⟩ (fun hc => ?_) (fun hc => ?_)
  · simp [jc] at hc
  have m1 : -1000000 ≤ y * w ∧ y * w ≤ 1000000 := by
    have k1 : y * w ≤ 1000 * w := Int.mul_le_mul_of_nonneg_right (by omega) (by omega)
    have k2 : -1000 * w ≤ y * w := Int.mul_le_mul_of_nonneg_right (by omega) (by omega)
    omega
  have m2 : -1000000 ≤ u * z ∧ u * z ≤ 1000000 := by
    have k1 : u * z ≤ 1000 * z := Int.mul_le_mul_of_nonneg_right (by omega) (by omega)
    have k2 : -1000 * z ≤ u * z := Int.mul_le_mul_of_nonneg_right (by omega) (by omega)
    omega
  iterate 2 refine mj_T.pl rfl rfl rfl rfl ?_
  refine mj_T.imul rfl ?_
  iterate 2 refine mj_T.pl rfl rfl rfl rfl ?_
  refine mj_T.imul rfl ?_
  refine mj_T.icmp (a := y * w) (b := u * z) rfl ⟨by omega, by omega⟩ ⟨by omega, by omega⟩ (fun hc => ?_) (fun hc => ?_)
  rotate_left
  · exact t47
  clear t47
  iterate 2 refine mj_T.pl rfl rfl rfl rfl ?_
  refine mj_T.call (ins := .invokevirtual 232) rfl rfl (Nat.le_of_ble_eq_true rfl) (Nat.le_of_ble_eq_true rfl) (by simp [mj_recv, rS_f hs23]) rfl (mj_Ok.up (by decide) (rp_isZero (D := 0) (r := x) (by omega) K23.nR hs23)) (fun v' h' hq' => ?_) (fun i h' hq' => by rcases hq' with ⟨_, h⟩ | ⟨_, h⟩ <;> cases h)
  rcases hq' with ⟨_, hq'⟩ | ⟨nz26, hq'⟩
  case' inl =>
    cases hq'
    refine mj_T.if0 (a := 1) rfl ⟨by decide, by decide⟩ (fun hc => ?_) (fun hc => ?_)
    · simp [jc] at hc
    iterate 2 refine mj_T.pl rfl rfl rfl rfl ?_
    refine mj_T.call (ins := .invokevirtual 198) rfl rfl (Nat.le_of_ble_eq_true rfl) (Nat.le_of_ble_eq_true rfl) (by simp [mj_recv, rS_f hs23]) rfl (mj_Ok.up (by decide) (rp_fails (D := 0) (c := 3) hs23)) (fun v' g27 hq' => ?_) (fun i h' hq' => by obtain ⟨_, _, h⟩ := hq'; cases h)
    obtain ⟨_, hs27, hq'⟩ := hq'
    cases hq'
    exact mj_T.ret rfl rfl rfl ⟨0, g27, ⟨by decide, by decide⟩, rfl, ⟨_, N, B, X, V, hs27, K23.put ⟨by decide, by decide⟩ (by decide) (by decide) (by decide) (by decide) (by decide)⟩⟩
  cases hq'
  refine mj_T.if0 (a := 0) rfl ⟨by decide, by decide⟩ (fun hc => ?_) (fun hc => ?_)
  rotate_left
  · simp [jc] at hc
  iterate 3 refine mj_T.pl rfl rfl rfl rfl ?_
  refine mj_T.call (ins := .invokevirtual 213) rfl rfl (Nat.le_of_ble_eq_true rfl) (Nat.le_of_ble_eq_true rfl) (by simp [mj_recv, rS_f hs23]) rfl (mj_Ok.up (by decide) (rp_loads (D := 0) (p := 0) (r := x) (by decide) (by omega) K23.nR hs23)) (fun v' g28 hq' => ?_) (fun i h' hq' => by obtain ⟨_, _, h⟩ := hq'; cases h)
  obtain ⟨_, hs28, hq'⟩ := hq'
  cases hq'
  have a28 : ∀ e, e < 13 → jfl V 0 (fun e => N (x * 13 + e)) 13 (0 * 13 + e) = N (x * 13 + e) := fun e he => jfl_at _ _ _ he
  have b28 : ∀ s, (s < 0 * 13 ∨ 0 * 13 + 13 ≤ s) → jfl V 0 (fun e => N (x * 13 + e)) 13 s = V s := fun s hc => jfl_off _ _ _ hc
  generalize jfl V 0 (fun e => N (x * 13 + e)) 13 = W28 at hs28 a28 b28
  have c1 : ∀ e, e < 13 → (W28 (0 * 13 + e)).natAbs ≤ 10 ^ 18 := fun e he => by
    rw [a28 e he]
    exact K23.sh (r := x) (by omega) he
  have c2 : jpo W28 0 ≠ pz_0 := jpo_ne_of (by rw [jdg_congr 13 a28]; exact nz26)
  iterate 3 refine mj_T.pl rfl rfl rfl rfl ?_
  refine mj_T.call (ins := .invokevirtual 305) rfl rfl (Nat.le_of_ble_eq_true rfl) (Nat.le_of_ble_eq_true rfl) (by simp [mj_recv, rS_f hs28]) rfl (mj_Ok.up (by decide) (rp_setsFraction (D := 0) (x := y) (y := z) hy hz hs28)) (fun v' g29 hq' => ?_) (fun i h' hq' => by obtain ⟨_, _, _, _, _, _, h⟩ := hq'; cases h)
  obtain ⟨W29, _, hs29, x29a, x29b, x29c, hq'⟩ := hq'
  cases hq'
  iterate 2 refine mj_T.pl rfl rfl rfl rfl ?_
  refine mj_T.call (ins := .invokevirtual 162) rfl rfl (Nat.le_of_ble_eq_true rfl) (Nat.le_of_ble_eq_true rfl) (by simp [mj_recv, rS_f hs29]) rfl (mj_Ok.up (by decide) (jp_valueAt (D := 0) (V := W29) (p := 0) (rG S23 N B T X) (by decide) (C := 10 ^ 18) (x := 1000) (fun e he => by rw [x29c _ (by omega) (by omega)]; exact c1 e he) (by rw [x29a]; omega) (by rw [x29b]; omega) (by decide) rp_fitv rp_fitv2 hs29)) (fun v' g30 hq' => ?_) (fun i h' hq' => by obtain ⟨_, _, _, _, _, _, _, h⟩ := hq'; cases h)
  obtain ⟨W30, _, hs30, v29, _, _, _, hq'⟩ := hq'
  cases hq'
  have f1 : ∀ j, j < 13 → W30 j = W28 j := fun j hj => by rw [v29 _ (by omega) (by omega) (by omega), x29c _ (by omega) (by omega)]
  have t92 : ∀ b : Int, (b = 0 ∨ b = 1) → mj_T 39 mj_m272 92 [some (.ref 0), some (.int (jn (x : Int))), some (.int (jn y)), some (.int (jn z)), some (.int (jn u)), some (.int (jn w)), none, none] [.int (jn b)] g30 (rIx N0 u0 H tm er T) := fun b hb => by
    refine mj_T.pl rfl rfl rfl rfl ?_
    iterate 3 refine mj_T.pl rfl rfl rfl rfl ?_
    refine mj_T.call (ins := .invokevirtual 305) rfl rfl (Nat.le_of_ble_eq_true rfl) (Nat.le_of_ble_eq_true rfl) (by simp [mj_recv, rS_f hs30]) rfl (mj_Ok.up (by decide) (rp_setsFraction (D := 0) (x := u) (y := w) hu hw hs30)) (fun v' g31 hq' => ?_) (fun i h' hq' => by obtain ⟨_, _, _, _, _, _, h⟩ := hq'; cases h)
    obtain ⟨W31, _, hs31, x31a, x31b, x31c, hq'⟩ := hq'
    cases hq'
    have f2 : ∀ j, j < 13 → W31 j = W28 j := fun j hj => by rw [x31c _ (by omega) (by omega), f1 j hj]
    have t115 : ∀ (V2 : Nat → Int) (g : mj_H), rS S23 N B T X V2 g → mj_T 39 mj_m272 115 [some (.ref 0), some (.int (jn (x : Int))), some (.int (jn y)), some (.int (jn z)), some (.int (jn u)), some (.int (jn w)), some (.int (jn b)), none] [] g (rIx N0 u0 H tm er T) := fun V2 g hg => by
      iterate 2 refine mj_T.pl rfl rfl rfl rfl ?_
      refine mj_T.call (ins := .invokevirtual 198) rfl rfl (Nat.le_of_ble_eq_true rfl) (Nat.le_of_ble_eq_true rfl) (by simp [mj_recv, rS_f hg]) rfl (mj_Ok.up (by decide) (rp_fails (D := 0) (c := 4) hg)) (fun v' g32 hq' => ?_) (fun i h' hq' => by obtain ⟨_, _, h⟩ := hq'; cases h)
      obtain ⟨_, hs32, hq'⟩ := hq'
      cases hq'
      exact mj_T.ret rfl rfl rfl ⟨0, g32, ⟨by decide, by decide⟩, rfl, ⟨_, N, B, X, V2, hs32, K23.put ⟨by decide, by decide⟩ (by decide) (by decide) (by decide) (by decide) (by decide)⟩⟩
    refine mj_T.pl rfl rfl rfl rfl ?_
    refine mj_T.if0 (a := b) rfl ⟨by omega, by omega⟩ (fun hc9 => ?_) (fun hc9 => ?_)
    · exact t115 _ _ hs31
    iterate 2 refine mj_T.pl rfl rfl rfl rfl ?_
    refine mj_T.call (ins := .invokevirtual 162) rfl rfl (Nat.le_of_ble_eq_true rfl) (Nat.le_of_ble_eq_true rfl) (by simp [mj_recv, rS_f hs31]) rfl (mj_Ok.up (by decide) (jp_valueAt (D := 0) (V := W31) (p := 0) (rG S23 N B T X) (by decide) (C := 10 ^ 18) (x := 1000) (fun e he => by rw [f2 _ (by omega)]; exact c1 e he) (by rw [x31a]; omega) (by rw [x31b]; omega) (by decide) rp_fitv rp_fitv2 hs31)) (fun v' g33 hq' => ?_) (fun i h' hq' => by obtain ⟨_, _, _, _, _, _, _, h⟩ := hq'; cases h)
    obtain ⟨W33, _, hs33, v32, _, _, _, hq'⟩ := hq'
    cases hq'
    have f3 : ∀ j, j < 13 → W33 j = W28 j := fun j hj => by rw [v32 _ (by omega) (by omega) (by omega), f2 j hj]
    have hsr := jsg_range (W33 659)
    refine mj_T.if0 (a := jsg (W33 659)) rfl ⟨by omega, by omega⟩ (fun hc8 => ?_) (fun hc8 => ?_)
    rotate_left
    · exact t115 _ _ hs33
    have c3 : ∀ e, e < 13 → (W33 (0 * 13 + e)).natAbs ≤ 10 ^ 18 := fun e he => by rw [f3 _ (by omega)]; exact c1 e he
    have c4 : jpo W33 0 ≠ pz_0 := by rw [jpo_eq (V := W28) (p := 0) fun e he => f3 _ (by omega)]; exact c2
    iterate 2 refine mj_T.pl rfl rfl rfl rfl ?_
    refine mj_T.call (ins := .invokevirtual 324) rfl rfl (Nat.le_of_ble_eq_true rfl) (Nat.le_of_ble_eq_true rfl) (by simp [mj_recv, rS_f hs33]) rfl (mj_Ok.up (by decide) (jp_laysRow (D := 0) (rG S23 N B T X) (by show 7 < 16; decide) kq_fit51 rp_a51 (a := 0) (by decide) (by decide) (by decide) c4 (fun e he => by have := c3 e he; omega) hs33)) (fun v' g34 hq' => ?_) (fun i h' hq' => by obtain ⟨_, _, _, _, _, _, _, _, h⟩ := hq'; cases h)
    obtain ⟨k34, W34, _, hk34, hs34, hrow34, hf34, hn34, hq'⟩ := hq'
    cases hq'
    have hs34a : rS (jvu S23 7 ((k34 + 1 : Nat) : Int)) N B T X W34 g34 := hs34
    have K34 := K23.put (k := 7) (v := ((k34 + 1 : Nat) : Int)) ⟨by omega, by omega⟩ (by decide) (by decide) (by decide) (by decide) (by decide)
    have h734 : (rF (jvu S23 7 ((k34 + 1 : Nat) : Int)))[7]? = some (.int (jn ((k34 + 1 : Nat) : Int))) := rF7
    clear hs34
    generalize jvu S23 7 ((k34 + 1 : Nat) : Int) = S34 at hs34a K34 h734
    iterate 3 refine mj_T.pl rfl rfl rfl rfl ?_
    refine mj_T.call (ins := .invokevirtual 305) rfl rfl (Nat.le_of_ble_eq_true rfl) (Nat.le_of_ble_eq_true rfl) (by simp [mj_recv, rS_f hs34a]) rfl (mj_Ok.up (by decide) (rp_setsFraction (D := 0) (x := y) (y := z) hy hz hs34a)) (fun v' g35 hq' => ?_) (fun i h' hq' => by obtain ⟨_, _, _, _, _, _, h⟩ := hq'; cases h)
    obtain ⟨W35, _, hs35, x35a, x35b, x35c, hq'⟩ := hq'
    cases hq'
    iterate 2 refine mj_T.pl rfl rfl rfl rfl ?_
    refine mj_T.call (ins := .invokevirtual 165) rfl rfl (Nat.le_of_ble_eq_true rfl) (Nat.le_of_ble_eq_true rfl) (by simp [mj_recv, rS_f hs35]) rfl (mj_Ok.up (by decide) (jp_changesAt (D := 0) (V := W35) (rG S34 N B T X) h734 hk34 (way := 0) (x := 1000) (by decide) (jrows_keep hrow34 hk34 (fun s hlt => x35c _ (by omega) (by omega))) (fun _ => ⟨by rw [x35a]; omega, by rw [x35b]; omega, by decide, rp_cr1, rp_fitv2⟩) hs35)) (fun v' g36 hq' => ?_) (fun i h' hq' => by obtain ⟨_, _, _, _, _, _, _, h⟩ := hq'; cases h)
    obtain ⟨W36, _, z36, hs36, f36, z36a, z36b, hq'⟩ := hq'
    cases hq'
    refine mj_T.pl rfl rfl rfl rfl ?_
    iterate 3 refine mj_T.pl rfl rfl rfl rfl ?_
    refine mj_T.call (ins := .invokevirtual 305) rfl rfl (Nat.le_of_ble_eq_true rfl) (Nat.le_of_ble_eq_true rfl) (by simp [mj_recv, rS_f hs36]) rfl (mj_Ok.up (by decide) (rp_setsFraction (D := 0) (x := u) (y := w) hu hw hs36)) (fun v' g37 hq' => ?_) (fun i h' hq' => by obtain ⟨_, _, _, _, _, _, h⟩ := hq'; cases h)
    obtain ⟨W37, _, hs37, x37a, x37b, x37c, hq'⟩ := hq'
    cases hq'
    refine mj_T.pl rfl rfl rfl rfl ?_
    iterate 2 refine mj_T.pl rfl rfl rfl rfl ?_
    refine mj_T.call (ins := .invokevirtual 165) rfl rfl (Nat.le_of_ble_eq_true rfl) (Nat.le_of_ble_eq_true rfl) (by simp [mj_recv, rS_f hs37]) rfl (mj_Ok.up (by decide) (jp_changesAt (D := 0) (V := W37) (rG S34 N B T X) h734 hk34 (way := 0) (x := 1000) (by decide) (jrows_keep hrow34 hk34 (fun s hlt => by rw [x37c _ (by omega) (by omega), f36 _ (by omega) (by omega) (by omega), x35c _ (by omega) (by omega)])) (fun _ => ⟨by rw [x37a]; omega, by rw [x37b]; omega, by decide, rp_cr1, rp_fitv2⟩) hs37)) (fun v' g38 hq' => ?_) (fun i h' hq' => by obtain ⟨_, _, _, _, _, _, _, h⟩ := hq'; cases h)
    obtain ⟨W38, _, z38, hs38, f38, z38a, z38b, hq'⟩ := hq'
    cases hq'
    refine mj_T.isub rfl ?_
    exact mj_T.ret rfl rfl rfl ⟨z36 - z38, g38, ⟨by omega, by omega⟩, rfl, ⟨S34, N, B, X, W38, hs38, K34⟩⟩
  have hsr := jsg_range (W30 659)
  refine mj_T.if0 (a := jsg (W30 659)) rfl ⟨by omega, by omega⟩ (fun hc8 => ?_) (fun hc8 => ?_)
  · refine mj_T.pl rfl rfl rfl rfl ?_
    exact t92 0 (Or.inl rfl)
  · iterate 2 refine mj_T.pl rfl rfl rfl rfl ?_
    exact t92 1 (Or.inr rfl)
theorem rx_laysSimpleRow {S N B X V : Nat → Int} {x : Nat} (hx : x ≤ 5) (nz : 1 ≤ jdg N x 13) (hs : rS S N B T X V h) (K : jKx N0 u0 H tm er S N B T) : mj_Ok 39 275 [.ref 0, .int (jn (x : Int))] h (fun r => ∃ (S2 W : Nat → Int) (h2 : mj_H) (k : Nat) (z : Int), rS S2 N B T X W h2 ∧ jKx N0 u0 H tm er S2 N B T ∧ (k ≤ 12 ∧ (rF S2)[7]? = some (.int (jn ((k + 1 : Nat) : Int))) ∧ kfr k W) ∧ (-13 ≤ z ∧ z ≤ 13) ∧ r = (.inl (some (.int (jn z))), h2)) := by
  refine mj_Ok.of (M := mj_m275) rfl rfl rfl ?_
  iterate 3 refine mj_T.pl rfl rfl rfl rfl ?_
  refine mj_T.call (ins := .invokevirtual 213) rfl rfl (Nat.le_of_ble_eq_true rfl) (Nat.le_of_ble_eq_true rfl) (by simp [mj_recv, rS_f hs]) rfl (mj_Ok.up (by decide) (rp_loads (D := 0) (p := 0) (r := x) (by decide) (by omega) K.nR hs)) (fun v' g1 hq' => ?_) (fun i h' hq' => by obtain ⟨_, _, h⟩ := hq'; cases h)
  obtain ⟨_, hs1, hq'⟩ := hq'
  cases hq'
  have a1 : ∀ e, e < 13 → jfl V 0 (fun e => N (x * 13 + e)) 13 (0 * 13 + e) = N (x * 13 + e) := fun e he => jfl_at _ _ _ he
  have b1 : ∀ s, (s < 0 * 13 ∨ 0 * 13 + 13 ≤ s) → jfl V 0 (fun e => N (x * 13 + e)) 13 s = V s := fun s hc => jfl_off _ _ _ hc
  generalize jfl V 0 (fun e => N (x * 13 + e)) 13 = W1 at hs1 a1 b1
  have c1 : ∀ e, e < 13 → (W1 (0 * 13 + e)).natAbs ≤ 10 ^ 18 := fun e he => by
    rw [a1 e he]
    exact K.sh (r := x) (by omega) he
  have c2 : jpo W1 0 ≠ pz_0 := jpo_ne_of (by rw [jdg_congr 13 a1]; exact nz)
  iterate 3 refine mj_T.pl rfl rfl rfl rfl ?_
  refine mj_T.call (ins := .invokevirtual 235) rfl rfl (Nat.le_of_ble_eq_true rfl) (Nat.le_of_ble_eq_true rfl) (by simp [mj_recv, rS_f hs1]) rfl (mj_Ok.up (by decide) (jp_simplifies (D := 0) (rG S N B T X) c2 c1 hs1)) (fun v' g2 hq' => ?_) (fun i h' hq' => by obtain ⟨_, _, _, _, _, h⟩ := hq'; cases h)
  obtain ⟨W2, _, hs2, _, ⟨c3, c4⟩, hq'⟩ := hq'
  cases hq'
  have hks := rp_ks
  iterate 2 refine mj_T.pl rfl rfl rfl rfl ?_
  refine mj_T.call (ins := .invokevirtual 324) rfl rfl (Nat.le_of_ble_eq_true rfl) (Nat.le_of_ble_eq_true rfl) (by simp [mj_recv, rS_f hs2]) rfl (mj_Ok.up (by decide) (jp_laysRow (D := 0) (rG S N B T X) (by show 7 < 16; decide) kq_fit51 rp_a51 (a := 8) (by decide) (by decide) (by decide) c3 (fun e he => by have := c4 e he; omega) hs2)) (fun v' g3 hq' => ?_) (fun i h' hq' => by obtain ⟨_, _, _, _, _, _, _, _, h⟩ := hq'; cases h)
  obtain ⟨k3, W3, _, hk3, hs3, hrow3, hf3, hn3, hq'⟩ := hq'
  cases hq'
  have hs3a : rS (jvu S 7 ((k3 + 1 : Nat) : Int)) N B T X W3 g3 := hs3
  have K3 := K.put (k := 7) (v := ((k3 + 1 : Nat) : Int)) ⟨by omega, by omega⟩ (by decide) (by decide) (by decide) (by decide) (by decide)
  have h73 : (rF (jvu S 7 ((k3 + 1 : Nat) : Int)))[7]? = some (.int (jn ((k3 + 1 : Nat) : Int))) := rF7
  clear hs3
  generalize jvu S 7 ((k3 + 1 : Nat) : Int) = S3 at hs3a K3 h73
  have h8 : ∀ e, e < 13 → W3 (8 * 13 + e) = W2 (8 * 13 + e) := fun e he => hf3 _ (by omega) (by omega) (by omega) (by omega) (by omega) (by omega) (by omega) (by omega)
  have hkf : kfr k3 W3 := ⟨hrow3, fun e he => by rw [hn3 e he]; have := c4 e he; omega, by rw [jdg_congr 13 h8]; exact jpo_ne c3, fun e he => by rw [h8 e he]; have := c4 e he; omega⟩
  refine mj_T.pl rfl rfl rfl rfl ?_
  refine mj_T.call (ins := .invokevirtual 327) rfl rfl (Nat.le_of_ble_eq_true rfl) (Nat.le_of_ble_eq_true rfl) (by simp [mj_recv, rS_f hs3a]) rfl (mj_Ok.up (by decide) (jp_rootsOf (D := 0) (rG S3 N B T X) h73 hk3 hrow3 hs3a)) (fun v' g4 hq' => ?_) (fun i h' hq' => by obtain ⟨_, _, _, _, _, _, _, h⟩ := hq'; cases h)
  obtain ⟨W4, _, z4, hs4, f4, z4a, z4b, hq'⟩ := hq'
  cases hq'
  exact mj_T.ret rfl rfl rfl ⟨S3, W4, g4, k3, z4, hs4, K3, ⟨hk3, h73, hkf.keep hk3 (fun s hlt => f4 s (by omega) (by omega) (by omega))⟩, ⟨by omega, by omega⟩, rfl⟩
theorem rx_closeIn {x y z : Int} (hx : jr x) (hy : jr y) (hz : jr z) (hI : jIx N0 u0 H tm er T h) : mj_Ok 40 276 [.ref 0, .int (jn x), .int (jn y), .int (jn z)] h (rIx N0 u0 H tm er T) := by
  refine mj_Ok.of (M := mj_m276) rfl rfl rfl ?_
  obtain ⟨S, N, B, X, V, hs, K⟩ := hI
  iterate 2 refine mj_T.pl rfl rfl rfl rfl ?_
  refine rT_put (v := 0) hs rfl rfl (by decide) rfl (fun g5 hs5 => ?_)
  have K5 := K.put (k := 3) (v := 0) ⟨by decide, by decide⟩ (by decide) (by decide) (by decide) (by decide) (by decide)
  generalize jvu S 3 0 = S5 at hs5 K5
  have t37 : ∀ (S1 V1 : Nat → Int) (g : mj_H) (x : Int), rS S1 N B T X V1 g → jKx N0 u0 H tm er S1 N B T → mj_T 39 mj_m276 37 [some (.ref 0), some (.int (jn x)), some (.int (jn y)), some (.int (jn z))] [] g (rIx N0 u0 H tm er T) := fun S1 V1 g x hg KK => by
    iterate 2 refine mj_T.pl rfl rfl rfl rfl ?_
    refine mj_T.call (ins := .invokevirtual 198) rfl rfl (Nat.le_of_ble_eq_true rfl) (Nat.le_of_ble_eq_true rfl) (by simp [mj_recv, rS_f hg]) rfl (mj_Ok.up (by decide) (rp_fails (D := 0) (c := 1) hg)) (fun v' g6 hq' => ?_) (fun i h' hq' => by obtain ⟨_, _, h⟩ := hq'; cases h)
    obtain ⟨_, hs6, hq'⟩ := hq'
    cases hq'
    exact mj_T.ret rfl rfl rfl ⟨0, g6, ⟨by decide, by decide⟩, rfl, ⟨_, N, B, X, V1, hs6, KK.put ⟨by decide, by decide⟩ (by decide) (by decide) (by decide) (by decide) (by decide)⟩⟩
  refine mj_T.pl rfl rfl rfl rfl ?_
  refine mj_T.call (ins := .invokestatic 181) rfl rfl (Nat.le_of_ble_eq_true rfl) (Nat.le_of_ble_eq_true rfl) rfl rfl (mj_Ok.up (by decide) (rp_isRegister (D := 0) hx)) (fun v' h' hq' => ?_) (fun i h' hq' => by rcases hq' with ⟨_, _, h⟩ | ⟨_, h⟩ <;> cases h)
  rcases hq' with ⟨x1, x2, hq'⟩ | ⟨_, hq'⟩
  case' inr =>
    cases hq'
    refine mj_T.if0 (a := 0) rfl ⟨by decide, by decide⟩ (fun hc => ?_) (fun hc => ?_)
    · exact t37 _ _ _ x hs5 K5
    · simp [jc] at hc
  cases hq'
  refine mj_T.if0 (a := 1) rfl ⟨by decide, by decide⟩ (fun hc => ?_) (fun hc => ?_)
  · simp [jc] at hc
  obtain ⟨x, rfl⟩ := Int.eq_ofNat_of_zero_le x1
  iterate 2 refine mj_T.pl rfl rfl rfl rfl ?_
  refine mj_T.call (ins := .invokevirtual 232) rfl rfl (Nat.le_of_ble_eq_true rfl) (Nat.le_of_ble_eq_true rfl) (by simp [mj_recv, rS_f hs5]) rfl (mj_Ok.up (by decide) (rp_isZero (D := 0) (r := x) (by omega) K5.nR hs5)) (fun v' h' hq' => ?_) (fun i h' hq' => by rcases hq' with ⟨_, h⟩ | ⟨_, h⟩ <;> cases h)
  rcases hq' with ⟨_, hq'⟩ | ⟨nz, hq'⟩
  case' inl =>
    cases hq'
    refine mj_T.if0 (a := 1) rfl ⟨by decide, by decide⟩ (fun hc => ?_) (fun hc => ?_)
    · exact t37 _ _ _ (x : Int) hs5 K5
    · simp [jc] at hc
  cases hq'
  refine mj_T.if0 (a := 0) rfl ⟨by decide, by decide⟩ (fun hc => ?_) (fun hc => ?_)
  · simp [jc] at hc
  refine mj_T.pl rfl rfl rfl rfl ?_
  refine mj_T.i2l rfl hy ?_
  iterate 3 refine mj_T.pl rfl rfl rfl rfl ?_
  refine mj_T.call (ins := .invokevirtual 330) rfl rfl (Nat.le_of_ble_eq_true rfl) (Nat.le_of_ble_eq_true rfl) (by simp [mj_recv, rS_f hs5]) rfl (mj_Ok.up (by decide) (rx_laysSimpleRow (x := x) (by omega) nz hs5 K5)) (fun v' g8 hq' => ?_) (fun i h' hq' => by obtain ⟨_, _, _, _, _, _, _, _, _, h⟩ := hq'; cases h)
  obtain ⟨S8, W8, _, k8, z8, hs8, K8, ⟨hk8, h78, kf8⟩, ⟨z8a, z8b⟩, hq'⟩ := hq'
  cases hq'
  refine mj_T.pl rfl rfl rfl rfl ?_
  refine mj_T.isub (a := z8) (b := 1) rfl ?_
  refine mj_T.i2l rfl ⟨by omega, by omega⟩ ?_
  refine mj_T.call (ins := .invokestatic 177) rfl rfl (Nat.le_of_ble_eq_true rfl) (Nat.le_of_ble_eq_true rfl) rfl rfl (mj_Ok.up (by decide) (rp_in (D := 0) (v := y) (lo := 0) (hi := z8 - 1) ⟨by have := hy.1; omega, by have := hy.2; omega⟩ ⟨by decide, by decide⟩ ⟨by omega, by omega⟩)) (fun v' h' hq' => ?_) (fun i h' hq' => by rcases hq' with ⟨_, _, h⟩ | ⟨_, h⟩ <;> cases h)
  rcases hq' with ⟨y1, y2, hq'⟩ | ⟨_, hq'⟩
  case' inr =>
    cases hq'
    refine mj_T.if0 (a := 0) rfl ⟨by decide, by decide⟩ (fun hc => ?_) (fun hc => ?_)
    · simp [jc] at hc
    · exact t37 _ _ _ (x : Int) hs8 K8
  cases hq'
  refine mj_T.if0 (a := 1) rfl ⟨by decide, by decide⟩ (fun hc => ?_) (fun hc => ?_)
  rotate_left
  · simp [jc] at hc
  clear t37
  refine mj_T.pl rfl rfl rfl rfl ?_
  refine mj_T.i2l rfl hz ?_
  iterate 2 refine mj_T.pl rfl rfl rfl rfl ?_
  refine mj_T.call (ins := .invokestatic 177) rfl rfl (Nat.le_of_ble_eq_true rfl) (Nat.le_of_ble_eq_true rfl) rfl rfl (mj_Ok.up (by decide) (rp_in (D := 0) (v := z) (lo := 0) (hi := 20) ⟨by have := hz.1; omega, by have := hz.2; omega⟩ ⟨by decide, by decide⟩ ⟨by decide, by decide⟩)) (fun v' h' hq' => ?_) (fun i h' hq' => by rcases hq' with ⟨_, _, h⟩ | ⟨_, h⟩ <;> cases h)
  rcases hq' with ⟨r9a, r9b, hq'⟩ | ⟨_, hq'⟩
  case' inr =>
    cases hq'
    refine mj_T.if0 (a := 0) rfl ⟨by decide, by decide⟩ (fun hc => ?_) (fun hc => ?_)
    · simp [jc] at hc
    iterate 2 refine mj_T.pl rfl rfl rfl rfl ?_
    refine mj_T.call (ins := .invokevirtual 198) rfl rfl (Nat.le_of_ble_eq_true rfl) (Nat.le_of_ble_eq_true rfl) (by simp [mj_recv, rS_f hs8]) rfl (mj_Ok.up (by decide) (rp_fails (D := 0) (c := 2) hs8)) (fun v' g10 hq' => ?_) (fun i h' hq' => by obtain ⟨_, _, h⟩ := hq'; cases h)
    obtain ⟨_, hs10, hq'⟩ := hq'
    cases hq'
    exact mj_T.ret rfl rfl rfl ⟨0, g10, ⟨by decide, by decide⟩, rfl, ⟨_, N, B, X, W8, hs10, K8.put ⟨by decide, by decide⟩ (by decide) (by decide) (by decide) (by decide) (by decide)⟩⟩
  cases hq'
  refine mj_T.if0 (a := 1) rfl ⟨by decide, by decide⟩ (fun hc => ?_) (fun hc => ?_)
  rotate_left
  · simp [jc] at hc
  iterate 4 refine mj_T.pl rfl rfl rfl rfl ?_
  refine mj_T.pl rfl rfl rfl rfl ?_
  have hset : ∀ w : Int64, mj_T 39 mj_m276 68 [some (.ref 0), some (.int (jn (x : Int))), some (.int (jn y)), some (.int (jn z))] [.long w, .int (jn ((657 : Nat) : Int)), .ref 0] g8 (rIx N0 u0 H tm er T) := fun w => by
    rw [← jl_of w]
    have hwr := jR_of w
    refine mj_T.call (ins := .invokevirtual 45) rfl rfl (Nat.le_of_ble_eq_true rfl) (Nat.le_of_ble_eq_true rfl) (by simp [mj_recv, rS_f hs8]) rfl (mj_Ok.up (by decide) (jS_sets (D := 0) (rG S8 N B T X) (s := 657) (v := w.toInt) (by decide) hwr hs8)) (fun v' g11 hq' => ?_) (fun i h' hq' => by obtain ⟨_, _, h⟩ := hq'; cases h)
    obtain ⟨_, hs11, hq'⟩ := hq'
    cases hq'
    have u1 : jvu W8 657 w.toInt 657 = w.toInt := jvu_at _ _ _
    have u2 : ∀ s, s ≠ 657 → jvu W8 657 w.toInt s = W8 s := fun s hne => jvu_ne _ _ _ hne
    generalize jvu W8 657 w.toInt = W11 at hs11 u1 u2
    have kf := kf8.keep hk8 (W := W11) (fun s hlt => u2 s (by omega))
    iterate 2 refine mj_T.pl rfl rfl rfl rfl ?_
    refine mj_T.call (ins := .invokevirtual 335) rfl rfl (Nat.le_of_ble_eq_true rfl) (Nat.le_of_ble_eq_true rfl) (by simp [mj_recv, rS_f hs11]) rfl (mj_Ok.up (by decide) (jp_closes (D := 0) (V := W11) (rG S8 N B T X) h78 hk8 (root := y) hy (Cr := rCr) (C := 10 ^ 50) (x := 10 ^ 50) kf.1 kf.2.1 (by rw [u1]; have := hwr.1; have := hwr.2; omega) (by decide) rp_cr2 rp_cr3 hs11)) (fun v' g12 hq' => ?_) (fun i h' hq' => by obtain ⟨_, _, _, _, _, h⟩ := hq'; cases h)
    obtain ⟨W12, _, hs12, f12, b12, hq'⟩ := hq'
    cases hq'
    iterate 2 refine mj_T.pl rfl rfl rfl rfl ?_
    refine mj_T.call (ins := .invokevirtual 295) rfl rfl (Nat.le_of_ble_eq_true rfl) (Nat.le_of_ble_eq_true rfl) (by simp [mj_recv, rS_f hs12]) rfl (mj_Ok.up (by decide) (rp_tellsWhole (D := 0) (s := 656) (by decide) hs12)) (fun v' g13 hq' => ?_) (fun i h' hq' => by obtain ⟨_, _, _, _, _, h⟩ := hq'; cases h)
    obtain ⟨W13, z13, _, hs13, hz13, hq'⟩ := hq'
    cases hq'
    exact mj_T.ret rfl rfl rfl ⟨_, g13, hz13, rfl, ⟨S8, N, B, X, W13, hs13, K8⟩⟩
  exact hset _
theorem rx_frs_loop {S N B X : Nat → Int} {x : Int} {k : Nat} {z : Int} (hz : -13 ≤ z ∧ z ≤ 13) (h7 : (rF S)[7]? = some (.int (jn ((k + 1 : Nat) : Int)))) (hk : k ≤ 12) (K : jKx N0 u0 H tm er S N B T) :
    ∀ (m j c : Nat) (V : Nat → Int) (h : mj_H), z ≤ (j : Int) + m → j ≤ 13 → c ≤ j → kfr k V → rS S N B T X V h → mj_T 39 mj_m278 43 [some (.ref 0), some (.int (jn x)), some (.int (jn z)), some (.int (jn (c : Int))), some (.int (jn (j : Int)))] [] h (rIx N0 u0 H tm er T) := by
  intro m
  induction m with
  | zero =>
    intro j c V h hm hj hc kf hs
    iterate 2 refine mj_T.pl rfl rfl rfl rfl ?_
    refine mj_T.icmp (a := (j : Int)) (b := z) rfl ⟨by omega, by omega⟩ ⟨by omega, by omega⟩ (fun hc2 => ?_) (fun hc2 => ?_)
    · refine mj_T.pl rfl rfl rfl rfl ?_
      exact mj_T.ret rfl rfl rfl ⟨(c : Int), h, ⟨by omega, by omega⟩, rfl, ⟨_, _, _, _, _, hs, K⟩⟩
    · simp only [jc, decide_eq_false_iff_not] at hc2
      omega
  | succ m ih =>
    intro j c V h hm hj hc kf hs
    iterate 2 refine mj_T.pl rfl rfl rfl rfl ?_
    refine mj_T.icmp (a := (j : Int)) (b := z) rfl ⟨by omega, by omega⟩ ⟨by omega, by omega⟩ (fun hc2 => ?_) (fun hc2 => ?_)
    · refine mj_T.pl rfl rfl rfl rfl ?_
      exact mj_T.ret rfl rfl rfl ⟨(c : Int), h, ⟨by omega, by omega⟩, rfl, ⟨_, _, _, _, _, hs, K⟩⟩
    simp only [jc, decide_eq_false_iff_not] at hc2
    iterate 3 refine mj_T.pl rfl rfl rfl rfl ?_
    refine mj_T.call (ins := .invokevirtual 338) rfl rfl (Nat.le_of_ble_eq_true rfl) (Nat.le_of_ble_eq_true rfl) (by simp [mj_recv, rS_f hs]) rfl (mj_Ok.up (by decide) (rp_isFractionRoot (root := (j : Int)) ⟨by omega, by omega⟩ h7 hk kf hs)) (fun v' g1 hq' => ?_) (fun i h' hq' => by obtain ⟨_, _, _, _, _, h | h⟩ := hq' <;> cases h)
    obtain ⟨W, _, hs1, f1, _, hq' | hq'⟩ := hq'
    · cases hq'
      refine mj_T.if0 (a := 0) rfl ⟨by decide, by decide⟩ (fun hc => ?_) (fun hc => ?_)
      rotate_left
      · simp [jc] at hc
      refine mj_T.pl rfl rfl rfl rfl ?_
      refine mj_T.iadd (a := (c : Int)) (b := 0) rfl ?_
      rw [show (c : Int) + 0 = ((c + 0 : Nat) : Int) by omega]
      refine mj_T.pl rfl rfl rfl rfl ?_
      refine mj_T.iinc (a := (j : Int)) rfl rfl ?_
      refine mj_T.pl rfl rfl rfl rfl ?_
      exact ih (j + 1) (c + 0) _ _ (by omega) (by omega) (by omega) (kf.keep hk f1) hs1
    · cases hq'
      refine mj_T.if0 (a := 1) rfl ⟨by decide, by decide⟩ (fun hc => ?_) (fun hc => ?_)
      · simp [jc] at hc
      iterate 2 refine mj_T.pl rfl rfl rfl rfl ?_
      refine mj_T.iadd (a := (c : Int)) (b := 1) rfl ?_
      rw [show (c : Int) + 1 = ((c + 1 : Nat) : Int) by omega]
      refine mj_T.pl rfl rfl rfl rfl ?_
      refine mj_T.iinc (a := (j : Int)) rfl rfl ?_
      refine mj_T.pl rfl rfl rfl rfl ?_
      exact ih (j + 1) (c + 1) _ _ (by omega) (by omega) (by omega) (kf.keep hk f1) hs1
theorem rx_fractionRoots {x : Int} (hx : jr x) (hI : jIx N0 u0 H tm er T h) : mj_Ok 40 278 [.ref 0, .int (jn x)] h (rIx N0 u0 H tm er T) := by
  refine mj_Ok.of (M := mj_m278) rfl rfl rfl ?_
  obtain ⟨S, N, B, X, V, hs, K⟩ := hI
  iterate 2 refine mj_T.pl rfl rfl rfl rfl ?_
  refine rT_put (v := 0) hs rfl rfl (by decide) rfl (fun g17 hs17 => ?_)
  have K17 := K.put (k := 3) (v := 0) ⟨by decide, by decide⟩ (by decide) (by decide) (by decide) (by decide) (by decide)
  generalize jvu S 3 0 = S17 at hs17 K17
  refine mj_T.pl rfl rfl rfl rfl ?_
  refine mj_T.call (ins := .invokestatic 181) rfl rfl (Nat.le_of_ble_eq_true rfl) (Nat.le_of_ble_eq_true rfl) rfl rfl (mj_Ok.up (by decide) (rp_isRegister (D := 0) hx)) (fun v' h' hq' => ?_) (fun i h' hq' => by rcases hq' with ⟨_, _, h⟩ | ⟨_, h⟩ <;> cases h)
  rcases hq' with ⟨x1, x2, hq'⟩ | ⟨_, hq'⟩
  case' inr =>
    cases hq'
    refine mj_T.if0 (a := 0) rfl ⟨by decide, by decide⟩ (fun hc => ?_) (fun hc => ?_)
    · simp [jc] at hc
    iterate 2 refine mj_T.pl rfl rfl rfl rfl ?_
    refine mj_T.call (ins := .invokevirtual 198) rfl rfl (Nat.le_of_ble_eq_true rfl) (Nat.le_of_ble_eq_true rfl) (by simp [mj_recv, rS_f hs17]) rfl (mj_Ok.up (by decide) (rp_fails (D := 0) (c := 1) hs17)) (fun v' g18 hq' => ?_) (fun i h' hq' => by obtain ⟨_, _, h⟩ := hq'; cases h)
    obtain ⟨_, hs18, hq'⟩ := hq'
    cases hq'
    exact mj_T.ret rfl rfl rfl ⟨0, g18, ⟨by decide, by decide⟩, rfl, ⟨_, N, B, X, V, hs18, K17.put ⟨by decide, by decide⟩ (by decide) (by decide) (by decide) (by decide) (by decide)⟩⟩
  cases hq'
  refine mj_T.if0 (a := 1) rfl ⟨by decide, by decide⟩ (fun hc => ?_) (fun hc => ?_)
  rotate_left
  · simp [jc] at hc
  obtain ⟨x, rfl⟩ := Int.eq_ofNat_of_zero_le x1
  iterate 2 refine mj_T.pl rfl rfl rfl rfl ?_
  refine mj_T.call (ins := .invokevirtual 232) rfl rfl (Nat.le_of_ble_eq_true rfl) (Nat.le_of_ble_eq_true rfl) (by simp [mj_recv, rS_f hs17]) rfl (mj_Ok.up (by decide) (rp_isZero (D := 0) (r := x) (by omega) K17.nR hs17)) (fun v' h' hq' => ?_) (fun i h' hq' => by rcases hq' with ⟨_, h⟩ | ⟨_, h⟩ <;> cases h)
  rcases hq' with ⟨_, hq'⟩ | ⟨nz19, hq'⟩
  case' inl =>
    cases hq'
    refine mj_T.if0 (a := 1) rfl ⟨by decide, by decide⟩ (fun hc => ?_) (fun hc => ?_)
    · simp [jc] at hc
    iterate 2 refine mj_T.pl rfl rfl rfl rfl ?_
    refine mj_T.call (ins := .invokevirtual 198) rfl rfl (Nat.le_of_ble_eq_true rfl) (Nat.le_of_ble_eq_true rfl) (by simp [mj_recv, rS_f hs17]) rfl (mj_Ok.up (by decide) (rp_fails (D := 0) (c := 2) hs17)) (fun v' g20 hq' => ?_) (fun i h' hq' => by obtain ⟨_, _, h⟩ := hq'; cases h)
    obtain ⟨_, hs20, hq'⟩ := hq'
    cases hq'
    exact mj_T.ret rfl rfl rfl ⟨0, g20, ⟨by decide, by decide⟩, rfl, ⟨_, N, B, X, V, hs20, K17.put ⟨by decide, by decide⟩ (by decide) (by decide) (by decide) (by decide) (by decide)⟩⟩
  cases hq'
  refine mj_T.if0 (a := 0) rfl ⟨by decide, by decide⟩ (fun hc => ?_) (fun hc => ?_)
  rotate_left
  · simp [jc] at hc
  have nz := nz19
  iterate 2 refine mj_T.pl rfl rfl rfl rfl ?_
  refine mj_T.call (ins := .invokevirtual 330) rfl rfl (Nat.le_of_ble_eq_true rfl) (Nat.le_of_ble_eq_true rfl) (by simp [mj_recv, rS_f hs17]) rfl (mj_Ok.up (by decide) (rx_laysSimpleRow (x := x) (by omega) nz hs17 K17)) (fun v' g21 hq' => ?_) (fun i h' hq' => by obtain ⟨_, _, _, _, _, _, _, _, _, h⟩ := hq'; cases h)
  obtain ⟨S21, W21, _, k21, z21, hs21, K21, ⟨hk21, h721, kf21⟩, ⟨z21a, z21b⟩, hq'⟩ := hq'
  cases hq'
  iterate 5 refine mj_T.pl rfl rfl rfl rfl ?_
  exact rx_frs_loop (z := z21) ⟨z21a, z21b⟩ h721 hk21 K21 13 0 0 _ _ (by omega) (by decide) (by decide) kf21 hs21
theorem rx_fr_loop {S N B X : Nat → Int} {x y : Int} {k : Nat} {z : Int} (hz : -13 ≤ z ∧ z ≤ 13) (h7 : (rF S)[7]? = some (.int (jn ((k + 1 : Nat) : Int)))) (hk : k ≤ 12) (K : jKx N0 u0 H tm er S N B T) :
    ∀ (m j : Nat) (l : Int) (V : Nat → Int) (h : mj_H), z ≤ (j : Int) + m → j ≤ 13 → 0 ≤ l → jr l → kfr k V → rS S N B T X V h → mj_T 39 mj_m279 42 [some (.ref 0), some (.int (jn x)), some (.int (jn y)), some (.int (jn z)), some (.int (jn l)), some (.int (jn (j : Int)))] [] h (rIx N0 u0 H tm er T) := by
  have t85 : ∀ (j : Nat) (l : Int) (V : Nat → Int) (h : mj_H), rS S N B T X V h → mj_T 39 mj_m279 85 [some (.ref 0), some (.int (jn x)), some (.int (jn y)), some (.int (jn z)), some (.int (jn l)), some (.int (jn (j : Int)))] [] h (rIx N0 u0 H tm er T) := fun j l V h hs => by
    iterate 2 refine mj_T.pl rfl rfl rfl rfl ?_
    refine mj_T.call (ins := .invokevirtual 198) rfl rfl (Nat.le_of_ble_eq_true rfl) (Nat.le_of_ble_eq_true rfl) (by simp [mj_recv, rS_f hs]) rfl (mj_Ok.up (by decide) (rp_fails (D := 0) (c := 1) hs)) (fun v' g22 hq' => ?_) (fun i h' hq' => by obtain ⟨_, _, h⟩ := hq'; cases h)
    obtain ⟨_, hs22, hq'⟩ := hq'
    cases hq'
    exact mj_T.ret rfl rfl rfl ⟨0, g22, ⟨by decide, by decide⟩, rfl, ⟨_, N, B, X, V, hs22, K.put ⟨by decide, by decide⟩ (by decide) (by decide) (by decide) (by decide) (by decide)⟩⟩
  intro m
  induction m with
  | zero =>
    intro j l V h hm hj hl0 hl kf hs
    iterate 2 refine mj_T.pl rfl rfl rfl rfl ?_
    refine mj_T.icmp (a := (j : Int)) (b := z) rfl ⟨by omega, by omega⟩ ⟨by omega, by omega⟩ (fun hc2 => ?_) (fun hc2 => ?_)
    · exact t85 j l V h hs
    · simp only [jc, decide_eq_false_iff_not] at hc2
      omega
  | succ m ih =>
    intro j l V h hm hj hl0 hl kf hs
    iterate 2 refine mj_T.pl rfl rfl rfl rfl ?_
    refine mj_T.icmp (a := (j : Int)) (b := z) rfl ⟨by omega, by omega⟩ ⟨by omega, by omega⟩ (fun hc2 => ?_) (fun hc2 => ?_)
    · exact t85 j l V h hs
    simp only [jc, decide_eq_false_iff_not] at hc2
    have hla := hl.1
    have hlb := hl.2
    iterate 2 refine mj_T.pl rfl rfl rfl rfl ?_
    refine mj_T.call (ins := .invokevirtual 338) rfl rfl (Nat.le_of_ble_eq_true rfl) (Nat.le_of_ble_eq_true rfl) (by simp [mj_recv, rS_f hs]) rfl (mj_Ok.up (by decide) (rp_isFractionRoot (root := (j : Int)) ⟨by omega, by omega⟩ h7 hk kf hs)) (fun v' g1 hq' => ?_) (fun i h' hq' => by obtain ⟨_, _, _, _, _, h | h⟩ := hq' <;> cases h)
    obtain ⟨W, _, hs1, f1, n1, hq' | hq'⟩ := hq'
    · cases hq'
      refine mj_T.if0 (a := 0) rfl ⟨by decide, by decide⟩ (fun hc => ?_) (fun hc => ?_)
      · simp [jc] at hc
      refine mj_T.pl rfl rfl rfl rfl ?_
      refine mj_T.iinc (a := (j : Int)) rfl rfl ?_
      refine mj_T.pl rfl rfl rfl rfl ?_
      exact ih (j + 1) l _ _ (by omega) (by omega) hl0 hl (kf.keep hk f1) hs1
    · cases hq'
      refine mj_T.if0 (a := 1) rfl ⟨by decide, by decide⟩ (fun hc => ?_) (fun hc => ?_)
      rotate_left
      · simp [jc] at hc
      refine mj_T.pl rfl rfl rfl rfl ?_
      refine mj_T.if0 (a := l) rfl hl (fun hc3 => ?_) (fun hc3 => ?_)
      · refine mj_T.iinc (a := l) rfl rfl ?_
        refine mj_T.iinc (a := (j : Int)) rfl rfl ?_
        refine mj_T.pl rfl rfl rfl rfl ?_
        simp only [jc, Bool.not_eq_true', decide_eq_false_iff_not] at hc3
        exact ih (j + 1) (l + -1) _ _ (by omega) (by omega) (by omega) ⟨by omega, by omega⟩ (kf.keep hk f1) hs1
      iterate 3 refine mj_T.pl rfl rfl rfl rfl ?_
      refine mj_T.call (ins := .invokevirtual 308) rfl rfl (Nat.le_of_ble_eq_true rfl) (Nat.le_of_ble_eq_true rfl) (by simp [mj_recv, rS_f hs1]) rfl (mj_Ok.up (by decide) (jp_tells (D := 0) (rG S N B T X) (i := 656) (j := 657) (by decide) (by decide) (by decide) (by decide) n1 hs1)) (fun v' g23 hq' => ?_) (fun i h' hq' => by obtain ⟨_, _, _, _, _, _, h⟩ := hq'; cases h)
      obtain ⟨W23, _, hs23, _, _, _, hq'⟩ := hq'
      cases hq'
      have hsr := jsg_range (W23 650)
      exact mj_T.ret rfl rfl rfl ⟨_, g23, ⟨by omega, by omega⟩, rfl, ⟨S, N, B, X, W23, hs23, K⟩⟩
theorem rx_fractionRoot {x y : Int} (hx : jr x) (hy : jr y) (hI : jIx N0 u0 H tm er T h) : mj_Ok 40 279 [.ref 0, .int (jn x), .int (jn y)] h (rIx N0 u0 H tm er T) := by
  refine mj_Ok.of (M := mj_m279) rfl rfl rfl ?_
  obtain ⟨S, N, B, X, V, hs, K⟩ := hI
  iterate 2 refine mj_T.pl rfl rfl rfl rfl ?_
  refine rT_put (v := 0) hs rfl rfl (by decide) rfl (fun g24 hs24 => ?_)
  have K24 := K.put (k := 3) (v := 0) ⟨by decide, by decide⟩ (by decide) (by decide) (by decide) (by decide) (by decide)
  generalize jvu S 3 0 = S24 at hs24 K24
  have t24 : ∀ x : Int, mj_T 39 mj_m279 24 [some (.ref 0), some (.int (jn x)), some (.int (jn y)), none, none, none] [] g24 (rIx N0 u0 H tm er T) := fun x => by
    iterate 2 refine mj_T.pl rfl rfl rfl rfl ?_
    refine mj_T.call (ins := .invokevirtual 198) rfl rfl (Nat.le_of_ble_eq_true rfl) (Nat.le_of_ble_eq_true rfl) (by simp [mj_recv, rS_f hs24]) rfl (mj_Ok.up (by decide) (rp_fails (D := 0) (c := 1) hs24)) (fun v' g25 hq' => ?_) (fun i h' hq' => by obtain ⟨_, _, h⟩ := hq'; cases h)
    obtain ⟨_, hs25, hq'⟩ := hq'
    cases hq'
    exact mj_T.ret rfl rfl rfl ⟨0, g25, ⟨by decide, by decide⟩, rfl, ⟨_, N, B, X, V, hs25, K24.put ⟨by decide, by decide⟩ (by decide) (by decide) (by decide) (by decide) (by decide)⟩⟩
  refine mj_T.pl rfl rfl rfl rfl ?_
  refine mj_T.call (ins := .invokestatic 181) rfl rfl (Nat.le_of_ble_eq_true rfl) (Nat.le_of_ble_eq_true rfl) rfl rfl (mj_Ok.up (by decide) (rp_isRegister (D := 0) hx)) (fun v' h' hq' => ?_) (fun i h' hq' => by rcases hq' with ⟨_, _, h⟩ | ⟨_, h⟩ <;> cases h)
  rcases hq' with ⟨x1, x2, hq'⟩ | ⟨_, hq'⟩
  case' inr =>
    cases hq'
    refine mj_T.if0 (a := 0) rfl ⟨by decide, by decide⟩ (fun hc => ?_) (fun hc => ?_)
    · exact t24 x
    · simp [jc] at hc
  cases hq'
  refine mj_T.if0 (a := 1) rfl ⟨by decide, by decide⟩ (fun hc => ?_) (fun hc => ?_)
  · simp [jc] at hc
  obtain ⟨x, rfl⟩ := Int.eq_ofNat_of_zero_le x1
  iterate 2 refine mj_T.pl rfl rfl rfl rfl ?_
  refine mj_T.call (ins := .invokevirtual 232) rfl rfl (Nat.le_of_ble_eq_true rfl) (Nat.le_of_ble_eq_true rfl) (by simp [mj_recv, rS_f hs24]) rfl (mj_Ok.up (by decide) (rp_isZero (D := 0) (r := x) (by omega) K24.nR hs24)) (fun v' h' hq' => ?_) (fun i h' hq' => by rcases hq' with ⟨_, h⟩ | ⟨_, h⟩ <;> cases h)
  rcases hq' with ⟨_, hq'⟩ | ⟨nz, hq'⟩
  case' inl =>
    cases hq'
    refine mj_T.if0 (a := 1) rfl ⟨by decide, by decide⟩ (fun hc => ?_) (fun hc => ?_)
    · exact t24 (x : Int)
    · simp [jc] at hc
  cases hq'
  refine mj_T.if0 (a := 0) rfl ⟨by decide, by decide⟩ (fun hc => ?_) (fun hc => ?_)
  · simp [jc] at hc
  refine mj_T.pl rfl rfl rfl rfl ?_
  refine mj_T.if0 (a := y) rfl hy (fun hc3 => ?_) (fun hc3 => ?_)
  rotate_left
  · exact t24 (x : Int)
  simp only [jc, decide_eq_true_eq] at hc3
  iterate 2 refine mj_T.pl rfl rfl rfl rfl ?_
  refine mj_T.call (ins := .invokevirtual 330) rfl rfl (Nat.le_of_ble_eq_true rfl) (Nat.le_of_ble_eq_true rfl) (by simp [mj_recv, rS_f hs24]) rfl (mj_Ok.up (by decide) (rx_laysSimpleRow (x := x) (by omega) nz hs24 K24)) (fun v' g26 hq' => ?_) (fun i h' hq' => by obtain ⟨_, _, _, _, _, _, _, _, _, h⟩ := hq'; cases h)
  obtain ⟨S26, W26, _, k26, z26, hs26, K26, ⟨hk26, h726, kf26⟩, ⟨z26a, z26b⟩, hq'⟩ := hq'
  cases hq'
  iterate 5 refine mj_T.pl rfl rfl rfl rfl ?_
  exact rx_fr_loop (z := z26) ⟨z26a, z26b⟩ h726 hk26 K26 13 0 y _ _ (by omega) (by decide) (by omega) hy kf26 hs26
theorem rx_clearText (hI : jIx N0 u0 H tm er T h) : mj_Ok 40 286 [.ref 0] h (fun r => ∃ h', r = (.inl (some (.int (jn tm))), h') ∧ jIx N0 u0 H 0 er T h') := by
  refine mj_Ok.of (M := mj_m286) rfl rfl rfl ?_
  obtain ⟨S, N, B, X, V, hs, K⟩ := hI
  iterate 2 refine mj_T.pl rfl rfl rfl rfl ?_
  refine rT_put (v := 0) hs rfl rfl (by decide) rfl (fun g1 hs1 => ?_)
  have K1 := K.put (k := 3) (v := 0) ⟨by decide, by decide⟩ (by decide) (by decide) (by decide) (by decide) (by decide)
  generalize jvu S 3 0 = S1 at hs1 K1
  have k4 := K1.1.2.2.2.1
  refine mj_T.pl rfl rfl rfl rfl ?_
  refine rT_get hs1 rfl rfl ?_
  rw [k4.1]
  iterate 3 refine mj_T.pl rfl rfl rfl rfl ?_
  refine rT_put (v := 0) hs1 rfl rfl (by decide) rfl (fun h2 hs2 => ?_)
  refine mj_T.pl rfl rfl rfl rfl ?_
  exact mj_T.ret rfl rfl rfl ⟨h2, rfl, ⟨_, _, _, _, _, hs2, K1.clear⟩⟩
theorem rx_errorPosition  (hI : jIx N0 u0 H tm er T h) : mj_Ok 40 287 [.ref 0] h (fun r => ∃ h2, r = (.inl (some (.int (jn er))), h2) ∧ jIx N0 u0 H tm er T h2) := by
  refine mj_Ok.of (M := mj_m287) rfl rfl rfl ?_
  obtain ⟨S, N, B, X, V, hs, K⟩ := hI
  iterate 2 refine mj_T.pl rfl rfl rfl rfl ?_
  refine rT_put (v := 0) hs rfl rfl (by decide) rfl (fun g2 hs2 => ?_)
  have K2 := K.put (k := 3) (v := 0) ⟨by decide, by decide⟩ (by decide) (by decide) (by decide) (by decide) (by decide)
  generalize jvu S 3 0 = S2 at hs2 K2
  have k5 := K2.1.2.2.2.2.1
  refine mj_T.pl rfl rfl rfl rfl ?_
  refine rT_get hs2 rfl rfl ?_
  rw [k5]
  exact mj_T.ret rfl rfl rfl ⟨_, rfl, ⟨_, _, _, _, _, hs2, K2⟩⟩
theorem rx_wr_loop {S N B V : Nat → Int} {a : Nat} {d : Int} (ha : a ≤ 5) (hd : -1 ≤ d ∧ d ≤ 12) (K : jKx N0 u0 H tm er S N B T) :
    ∀ (m w : Nat) (X : Nat → Int) (h : mj_H) (l4 : Option Value), m ≤ 13 → w + 43 * m ≤ 600 → rS (jvu S 15 (w : Int)) N B T X V h → mj_T 39 mj_m305 41 [some (.ref 0), some (.int (jn (a : Int))), some (.int (jn d)), some (.int (jn ((m : Int) - 1))), l4, none] [] h (rIx N0 u0 H tm er T) := by
  intro m
  induction m with
  | zero =>
    intro w X h l4 hm hw hs
    refine mj_T.pl rfl rfl rfl rfl ?_
    refine mj_T.if0 (a := ((0 : Nat) : Int) - 1) rfl ⟨by decide, by decide⟩ (fun hc => ?_) (fun hc => ?_)
    · refine mj_T.pl rfl rfl rfl rfl ?_
      refine rT_get (v := .int (jn (w : Int))) hs rfl (by show some (Value.int (jn (jvu S 15 (w : Int) 15))) = _; rw [jvu_at]) ?_
      exact mj_T.ret rfl rfl rfl ⟨(w : Int), h, ⟨by omega, by omega⟩, rfl, ⟨_, _, _, _, _, hs, K.put15 (by omega)⟩⟩
    · simp [jc] at hc
  | succ m ih =>
    intro w X h l4 hm hw hs
    refine mj_T.pl rfl rfl rfl rfl ?_
    refine mj_T.if0 (a := ((m + 1 : Nat) : Int) - 1) rfl ⟨by omega, by omega⟩ (fun hc => ?_) (fun hc => ?_)
    · simp only [jc, decide_eq_true_eq] at hc
      omega
    rw [show ((m + 1 : Nat) : Int) - 1 = (m : Int) by omega]
    have hN := K.1.1.1 (a * 13 + m) (by omega)
    refine mj_T.pl rfl rfl rfl rfl ?_
    refine rT_get hs rfl rfl ?_
    iterate 2 refine mj_T.pl rfl rfl rfl rfl ?_
    refine mj_T.imul (a := (a : Int)) (b := 13) rfl ?_
    refine mj_T.pl rfl rfl rfl rfl ?_
    refine mj_T.iadd rfl ?_
    rw [show (a : Int) * 13 + (m : Int) = ((a * 13 + m : Nat) : Int) by omega]
    refine rT_ldN hs rfl ⟨by omega, by omega⟩ ?_
    rw [Int.toNat_natCast]
    iterate 3 refine mj_T.pl rfl rfl rfl rfl ?_
    have t126 : ∀ (w2 : Nat) (X2 : Nat → Int) (h2 : mj_H), w2 ≤ w + 43 → rS (jvu S 15 (w2 : Int)) N B T X2 V h2 → mj_T 39 mj_m305 126 [some (.ref 0), some (.int (jn (a : Int))), some (.int (jn d)), some (.int (jn (m : Int))), some (.long (jl (N (a * 13 + m)))), none] [] h2 (rIx N0 u0 H tm er T) := fun w2 X2 h2 hw2 hs2 => by
      refine mj_T.iinc (a := (m : Int)) rfl rfl ?_
      refine mj_T.pl rfl rfl rfl rfl ?_
      exact ih w2 X2 h2 _ (by omega) (by omega) hs2
    have t119 : ∀ (w2 : Nat) (X2 : Nat → Int) (h2 : mj_H), w2 ≤ w + 3 → rS (jvu S 15 (w2 : Int)) N B T X2 V h2 → mj_T 39 mj_m305 119 [some (.ref 0), some (.int (jn (a : Int))), some (.int (jn d)), some (.int (jn (m : Int))), some (.long (jl (N (a * 13 + m)))), none] [] h2 (rIx N0 u0 H tm er T) := fun w2 X2 h2 hw2 hs2 => by
      iterate 3 refine mj_T.pl rfl rfl rfl rfl ?_
      refine mj_T.call (ins := .invokevirtual 403) rfl rfl (Nat.le_of_ble_eq_true rfl) (Nat.le_of_ble_eq_true rfl) (by simp [mj_recv, rS_f hs2]) rfl (mj_Ok.up (by decide) (rp_writesTerm (D := 0) (w := w2) (e := m) hN (by omega) (by omega) hs2)) (fun v' h3 hq' => ?_) (fun i h' hq' => by obtain ⟨_, _, _, _, _, h⟩ := hq'; cases h)
      obtain ⟨w3, X3, _, wb3, hs3, hq'⟩ := hq'
      cases hq'
      exact t126 w3 X3 _ (by omega) hs3
    refine mj_T.lif (a := N (a * 13 + m)) (b := 0) rfl rfl ⟨by omega, by omega⟩ ⟨by decide, by decide⟩ (fun hc2 => ?_) (fun hc2 => ?_)
    rotate_left
    · refine mj_T.pl rfl rfl rfl rfl ?_
      exact t126 w X h (by omega) hs
    iterate 2 refine mj_T.pl rfl rfl rfl rfl ?_
    refine mj_T.icmp (a := (m : Int)) (b := d) rfl ⟨by omega, by omega⟩ ⟨by omega, by omega⟩ (fun hc3 => ?_) (fun hc3 => ?_)
    · iterate 2 refine mj_T.pl rfl rfl rfl rfl ?_
      refine mj_T.lif (a := N (a * 13 + m)) (b := 0) rfl rfl ⟨by omega, by omega⟩ ⟨by decide, by decide⟩ (fun hc4 => ?_) (fun hc4 => ?_)
      · exact t119 w X h (by omega) hs
      iterate 2 refine mj_T.pl rfl rfl rfl rfl ?_
      refine mj_T.call (ins := .invokevirtual 396) rfl rfl (Nat.le_of_ble_eq_true rfl) (Nat.le_of_ble_eq_true rfl) (by simp [mj_recv, rS_f hs]) rfl (mj_Ok.up (by omega) (rp_writes (D := 0) (w := w) (by omega) hs)) (fun v' h5 hq' => ?_) (fun i h' hq' => by obtain ⟨_, _, _, h⟩ := hq'; cases h)
      obtain ⟨X5, _, hs5, hq'⟩ := hq'
      cases hq'
      exact t119 (w + 1) X5 h5 (by omega) hs5
    iterate 2 refine mj_T.pl rfl rfl rfl rfl ?_
    refine mj_T.call (ins := .invokevirtual 396) rfl rfl (Nat.le_of_ble_eq_true rfl) (Nat.le_of_ble_eq_true rfl) (by simp [mj_recv, rS_f hs]) rfl (mj_Ok.up (by omega) (rp_writes (D := 0) (w := w) (by omega) hs)) (fun v' h5 hq' => ?_) (fun i h' hq' => by obtain ⟨_, _, _, h⟩ := hq'; cases h)
    obtain ⟨X5, _, hs5, hq'⟩ := hq'
    cases hq'
    iterate 3 refine mj_T.pl rfl rfl rfl rfl ?_
    have t94 : ∀ c : Int, mj_T 39 mj_m305 94 [some (.ref 0), some (.int (jn (a : Int))), some (.int (jn d)), some (.int (jn (m : Int))), some (.long (jl (N (a * 13 + m)))), none] [.int (jn c), .ref 0] h5 (rIx N0 u0 H tm er T) := fun c => by
      refine mj_T.call (ins := .invokevirtual 396) rfl rfl (Nat.le_of_ble_eq_true rfl) (Nat.le_of_ble_eq_true rfl) (by simp [mj_recv, rS_f hs5]) rfl (mj_Ok.up (by omega) (rp_writes (D := 0) (w := w + 1) (by omega) hs5)) (fun v' h6 hq' => ?_) (fun i h' hq' => by obtain ⟨_, _, _, h⟩ := hq'; cases h)
      obtain ⟨X6, _, hs6, hq'⟩ := hq'
      cases hq'
      iterate 2 refine mj_T.pl rfl rfl rfl rfl ?_
      refine mj_T.call (ins := .invokevirtual 396) rfl rfl (Nat.le_of_ble_eq_true rfl) (Nat.le_of_ble_eq_true rfl) (by simp [mj_recv, rS_f hs6]) rfl (mj_Ok.up (by omega) (rp_writes (D := 0) (w := w + 1 + 1) (by omega) hs6)) (fun v' h7 hq' => ?_) (fun i h' hq' => by obtain ⟨_, _, _, h⟩ := hq'; cases h)
      obtain ⟨X7, _, hs7, hq'⟩ := hq'
      cases hq'
      refine mj_T.pl rfl rfl rfl rfl ?_
      exact t119 (w + 1 + 1 + 1) X7 h7 (by omega) hs7
    refine mj_T.lif (a := N (a * 13 + m)) (b := 0) rfl rfl ⟨by omega, by omega⟩ ⟨by decide, by decide⟩ (fun hc4 => ?_) (fun hc4 => ?_)
    · refine mj_T.pl rfl rfl rfl rfl ?_
      exact t94 43
    · iterate 2 refine mj_T.pl rfl rfl rfl rfl ?_
      exact t94 45
theorem rx_write {x : Int} (hx : jr x) (hI : jIx N0 u0 H tm er T h) : mj_Ok 40 305 [.ref 0, .int (jn x)] h (rIx N0 u0 H tm er T) := by
  refine mj_Ok.of (M := mj_m305) rfl rfl rfl ?_
  obtain ⟨S, N, B, X, V, hs, K⟩ := hI
  iterate 2 refine mj_T.pl rfl rfl rfl rfl ?_
  refine rT_put (v := 0) hs rfl rfl (by decide) rfl (fun g1 hs1 => ?_)
  have K1 := K.put (k := 3) (v := 0) ⟨by decide, by decide⟩ (by decide) (by decide) (by decide) (by decide) (by decide)
  generalize jvu S 3 0 = S1 at hs1 K1
  refine mj_T.pl rfl rfl rfl rfl ?_
  refine mj_T.call (ins := .invokestatic 181) rfl rfl (Nat.le_of_ble_eq_true rfl) (Nat.le_of_ble_eq_true rfl) rfl rfl (mj_Ok.up (by decide) (rp_isRegister (D := 0) hx)) (fun v' h' hq' => ?_) (fun i h' hq' => by rcases hq' with ⟨_, _, h⟩ | ⟨_, h⟩ <;> cases h)
  rcases hq' with ⟨x1, x2, hq'⟩ | ⟨_, hq'⟩
  case' inr =>
    cases hq'
    refine mj_T.if0 (a := 0) rfl ⟨by decide, by decide⟩ (fun hc => ?_) (fun hc => ?_)
    · simp [jc] at hc
    iterate 2 refine mj_T.pl rfl rfl rfl rfl ?_
    refine mj_T.call (ins := .invokevirtual 198) rfl rfl (Nat.le_of_ble_eq_true rfl) (Nat.le_of_ble_eq_true rfl) (by simp [mj_recv, rS_f hs1]) rfl (mj_Ok.up (by decide) (rp_fails (D := 0) (c := 1) hs1)) (fun v' g2 hq' => ?_) (fun i h' hq' => by obtain ⟨_, _, h⟩ := hq'; cases h)
    obtain ⟨_, hs2, hq'⟩ := hq'
    cases hq'
    exact mj_T.ret rfl rfl rfl ⟨0, g2, ⟨by decide, by decide⟩, rfl, ⟨_, N, B, X, V, hs2, K1.put ⟨by decide, by decide⟩ (by decide) (by decide) (by decide) (by decide) (by decide)⟩⟩
  cases hq'
  refine mj_T.if0 (a := 1) rfl ⟨by decide, by decide⟩ (fun hc => ?_) (fun hc => ?_)
  rotate_left
  · simp [jc] at hc
  obtain ⟨x, rfl⟩ := Int.eq_ofNat_of_zero_le x1
  iterate 2 refine mj_T.pl rfl rfl rfl rfl ?_
  refine rT_put (v := ((0 : Nat) : Int)) hs1 rfl rfl (by decide) rfl (fun h2 hs2 => ?_)
  have hd := jdg_le N x 13
  iterate 2 refine mj_T.pl rfl rfl rfl rfl ?_
  refine mj_T.call (ins := .invokevirtual 185) rfl rfl (Nat.le_of_ble_eq_true rfl) (Nat.le_of_ble_eq_true rfl) (by simp [mj_recv, rS_f hs2]) rfl (mj_Ok.up (by decide) (rp_degreeIn (D := 0) (r := x) (by omega) K1.nR hs2)) (fun v' h' hq' => ?_) (fun i h' hq' => by cases hq')
  cases hq'
  iterate 2 refine mj_T.pl rfl rfl rfl rfl ?_
  have t39 : ∀ (w : Nat) (X2 : Nat → Int) (h3 : mj_H), w ≤ 1 → rS (jvu S1 15 (w : Int)) N B T X2 V h3 → mj_T 39 mj_m305 39 [some (.ref 0), some (.int (jn (x : Int))), some (.int (jn ((jdg N x 13 : Int) - 1))), none, none, none] [] h3 (rIx N0 u0 H tm er T) := fun w X2 h3 hw hs3 => by
    iterate 2 refine mj_T.pl rfl rfl rfl rfl ?_
    obtain ⟨m, hm⟩ : ∃ m, jdg N x 13 = m := ⟨_, rfl⟩
    rw [hm] at hd ⊢
    exact rx_wr_loop (d := (m : Int) - 1) (by omega) ⟨by omega, by omega⟩ K1 m w X2 h3 none hd (by omega) hs3
  refine mj_T.if0 (a := (jdg N x 13 : Int) - 1) rfl ⟨by omega, by omega⟩ (fun hc => ?_) (fun hc => ?_)
  · exact t39 0 X h2 (by decide) hs2
  iterate 2 refine mj_T.pl rfl rfl rfl rfl ?_
  refine mj_T.call (ins := .invokevirtual 396) rfl rfl (Nat.le_of_ble_eq_true rfl) (Nat.le_of_ble_eq_true rfl) (by simp [mj_recv, rS_f hs2]) rfl (mj_Ok.up (by omega) (rp_writes (D := 0) (w := 0) (by omega) hs2)) (fun v' h5 hq' => ?_) (fun i h' hq' => by obtain ⟨_, _, _, h⟩ := hq'; cases h)
  obtain ⟨X5, _, hs5, hq'⟩ := hq'
  cases hq'
  exact t39 1 X5 h5 (by decide) hs5
theorem rx_writtenAt {x : Int} (hx : jr x) (hI : jIx N0 u0 H tm er T h) : mj_Ok 40 306 [.ref 0, .int (jn x)] h (rIx N0 u0 H tm er T) := by
  refine mj_Ok.of (M := mj_m306) rfl rfl rfl ?_
  obtain ⟨S, N, B, X, V, hs, K⟩ := hI
  iterate 2 refine mj_T.pl rfl rfl rfl rfl ?_
  refine rT_put (v := 0) hs rfl rfl (by decide) rfl (fun g3 hs3 => ?_)
  have K3 := K.put (k := 3) (v := 0) ⟨by decide, by decide⟩ (by decide) (by decide) (by decide) (by decide) (by decide)
  generalize jvu S 3 0 = S3 at hs3 K3
  have k6 := K3.1.2.2.2.2.2.1
  refine mj_T.pl rfl rfl rfl rfl ?_
  refine mj_T.i2l rfl hx ?_
  iterate 2 refine mj_T.pl rfl rfl rfl rfl ?_
  refine rT_get hs3 rfl rfl ?_
  refine mj_T.pl rfl rfl rfl rfl ?_
  refine mj_T.isub (a := S3 15) (b := 1) rfl ?_
  refine mj_T.i2l rfl ⟨by omega, by omega⟩ ?_
  refine mj_T.call (ins := .invokestatic 177) rfl rfl (Nat.le_of_ble_eq_true rfl) (Nat.le_of_ble_eq_true rfl) rfl rfl (mj_Ok.up (by decide) (rp_in (D := 0) (v := x) (lo := 0) (hi := S3 15 - 1) ⟨by have := hx.1; omega, by have := hx.2; omega⟩ ⟨by decide, by decide⟩ ⟨by omega, by omega⟩)) (fun v' h' hq' => ?_) (fun i h' hq' => by rcases hq' with ⟨_, _, h⟩ | ⟨_, h⟩ <;> cases h)
  rcases hq' with ⟨x1, x2, hq'⟩ | ⟨_, hq'⟩
  case' inr =>
    cases hq'
    refine mj_T.if0 (a := 0) rfl ⟨by decide, by decide⟩ (fun hc => ?_) (fun hc => ?_)
    rotate_left
    · simp [jc] at hc
    iterate 2 refine mj_T.pl rfl rfl rfl rfl ?_
    refine mj_T.call (ins := .invokevirtual 198) rfl rfl (Nat.le_of_ble_eq_true rfl) (Nat.le_of_ble_eq_true rfl) (by simp [mj_recv, rS_f hs3]) rfl (mj_Ok.up (by decide) (rp_fails (D := 0) (c := 1) hs3)) (fun v' g4 hq' => ?_) (fun i h' hq' => by obtain ⟨_, _, h⟩ := hq'; cases h)
    obtain ⟨_, hs4, hq'⟩ := hq'
    cases hq'
    exact mj_T.ret rfl rfl rfl ⟨0, g4, ⟨by decide, by decide⟩, rfl, ⟨_, N, B, X, V, hs4, K3.put ⟨by decide, by decide⟩ (by decide) (by decide) (by decide) (by decide) (by decide)⟩⟩
  cases hq'
  refine mj_T.if0 (a := 1) rfl ⟨by decide, by decide⟩ (fun hc => ?_) (fun hc => ?_)
  · simp [jc] at hc
  refine mj_T.pl rfl rfl rfl rfl ?_
  refine rT_get hs3 rfl rfl ?_
  refine mj_T.pl rfl rfl rfl rfl ?_
  refine rT_ldX hs3 rfl ⟨by omega, by omega⟩ ?_
  refine mj_T.pl rfl rfl rfl rfl ?_
  rw [← jn_of (jn (X x.toNat))]
  exact mj_T.ret rfl rfl rfl ⟨_, _, jr_of _, rfl, ⟨_, _, _, _, _, hs3, K3⟩⟩
theorem rx_meanTerms_loop {S N B X V : Nat → Int} (hs : rS S N B T X V h) (K : jKx N0 u0 H tm er S N B T) :
    ∀ (m k c : Nat), k + m = 6 → c ≤ 13 * k → mj_T 39 mj_m307 9 [some (.ref 0), some (.int (jn (c : Int))), some (.int (jn (k : Int)))] [] h (rDx N0 u0 H tm er T) := by
  intro m
  induction m with
  | zero =>
    intro k c hk hcb
    have hk : k = 6 := by omega
    subst hk
    iterate 2 refine mj_T.pl rfl rfl rfl rfl ?_
    refine mj_T.icmp (a := ((6 : Nat) : Int)) (b := 6) rfl ⟨by decide, by decide⟩ ⟨by decide, by decide⟩ (fun hc => ?_) (fun hc => ?_)
    · iterate 3 refine mj_T.pl rfl rfl rfl rfl ?_
      refine mj_T.ddv rfl (rp_dd c (by omega)) ?_
      exact mj_T.ret rfl rfl rfl ⟨_, h, rfl, ⟨_, _, _, _, _, hs, K⟩⟩
    · simp [jc] at hc
  | succ m ih =>
    intro k c hk hcb
    iterate 2 refine mj_T.pl rfl rfl rfl rfl ?_
    refine mj_T.icmp (a := (k : Int)) (b := 6) rfl ⟨by omega, by omega⟩ ⟨by decide, by decide⟩ (fun hc => ?_) (fun hc => ?_)
    · simp only [jc, decide_eq_true_eq] at hc
      omega
    iterate 3 refine mj_T.pl rfl rfl rfl rfl ?_
    have hrt := rtm_le N k 13
    refine mj_T.call (ins := .invokevirtual 292) rfl rfl (Nat.le_of_ble_eq_true rfl) (Nat.le_of_ble_eq_true rfl) (by simp [mj_recv, rS_f hs]) rfl (mj_Ok.up (by decide) (rp_termsOf (D := 0) (r := k) (by omega) K.nR hs)) (fun v' h' hq' => ?_) (fun i h' hq' => by cases hq')
    cases hq'
    refine mj_T.iadd (a := (c : Int)) (b := ((rtm N k 13 : Nat) : Int)) rfl ?_
    rw [show (c : Int) + ((rtm N k 13 : Nat) : Int) = ((c + rtm N k 13 : Nat) : Int) by omega]
    refine mj_T.pl rfl rfl rfl rfl ?_
    refine mj_T.iinc (a := (k : Int)) rfl rfl ?_
    refine mj_T.pl rfl rfl rfl rfl ?_
    exact ih (k + 1) _ (by omega) (by omega)
theorem rx_meanTerms  (hI : jIx N0 u0 H tm er T h) : mj_Ok 40 307 [.ref 0] h (rDx N0 u0 H tm er T) := by
  refine mj_Ok.of (M := mj_m307) rfl rfl rfl ?_
  obtain ⟨S, N, B, X, V, hs, K⟩ := hI
  iterate 2 refine mj_T.pl rfl rfl rfl rfl ?_
  refine rT_put (v := 0) hs rfl rfl (by decide) rfl (fun g5 hs5 => ?_)
  have K5 := K.put (k := 3) (v := 0) ⟨by decide, by decide⟩ (by decide) (by decide) (by decide) (by decide) (by decide)
  generalize jvu S 3 0 = S5 at hs5 K5
  iterate 4 refine mj_T.pl rfl rfl rfl rfl ?_
  exact rx_meanTerms_loop hs5 K5 6 0 0 (by omega) (by decide)
theorem rx_usedShare_loop {S N B X V : Nat → Int} (hs : rS S N B T X V h) (K : jKx N0 u0 H tm er S N B T) :
    ∀ (m k c : Nat), k + m = 6 → c ≤ 13 * k → mj_T 39 mj_m308 9 [some (.ref 0), some (.int (jn (c : Int))), some (.int (jn (k : Int)))] [] h (rEx N0 u0 H tm er T) := by
  intro m
  induction m with
  | zero =>
    intro k c hk hcb
    have hk : k = 6 := by omega
    subst hk
    iterate 2 refine mj_T.pl rfl rfl rfl rfl ?_
    refine mj_T.icmp (a := ((6 : Nat) : Int)) (b := 6) rfl ⟨by decide, by decide⟩ ⟨by decide, by decide⟩ (fun hc => ?_) (fun hc => ?_)
    · iterate 3 refine mj_T.pl rfl rfl rfl rfl ?_
      refine mj_T.fdv rfl (rp_ff c (by omega)) ?_
      exact mj_T.ret rfl rfl rfl ⟨_, h, rfl, ⟨_, _, _, _, _, hs, K⟩⟩
    · simp [jc] at hc
  | succ m ih =>
    intro k c hk hcb
    iterate 2 refine mj_T.pl rfl rfl rfl rfl ?_
    refine mj_T.icmp (a := (k : Int)) (b := 6) rfl ⟨by omega, by omega⟩ ⟨by decide, by decide⟩ (fun hc => ?_) (fun hc => ?_)
    · simp only [jc, decide_eq_true_eq] at hc
      omega
    iterate 3 refine mj_T.pl rfl rfl rfl rfl ?_
    refine mj_T.call (ins := .invokevirtual 232) rfl rfl (Nat.le_of_ble_eq_true rfl) (Nat.le_of_ble_eq_true rfl) (by simp [mj_recv, rS_f hs]) rfl (mj_Ok.up (by decide) (rp_isZero (D := 0) (r := k) (by omega) K.nR hs)) (fun v' h' hq' => ?_) (fun i h' hq' => by rcases hq' with ⟨_, h⟩ | ⟨_, h⟩ <;> cases h)
    rcases hq' with ⟨_, hq'⟩ | ⟨_, hq'⟩
    · cases hq'
      refine mj_T.if0 (a := 1) rfl ⟨by decide, by decide⟩ (fun hc => ?_) (fun hc => ?_)
      · simp [jc] at hc
      iterate 2 refine mj_T.pl rfl rfl rfl rfl ?_
      refine mj_T.iadd (a := (c : Int)) (b := 0) rfl ?_
      rw [show (c : Int) + 0 = ((c + 0 : Nat) : Int) by omega]
      refine mj_T.pl rfl rfl rfl rfl ?_
      refine mj_T.iinc (a := (k : Int)) rfl rfl ?_
      refine mj_T.pl rfl rfl rfl rfl ?_
      exact ih (k + 1) _ (by omega) (by omega)
    · cases hq'
      refine mj_T.if0 (a := 0) rfl ⟨by decide, by decide⟩ (fun hc => ?_) (fun hc => ?_)
      rotate_left
      · simp [jc] at hc
      refine mj_T.pl rfl rfl rfl rfl ?_
      refine mj_T.iadd (a := (c : Int)) (b := 1) rfl ?_
      rw [show (c : Int) + 1 = ((c + 1 : Nat) : Int) by omega]
      refine mj_T.pl rfl rfl rfl rfl ?_
      refine mj_T.iinc (a := (k : Int)) rfl rfl ?_
      refine mj_T.pl rfl rfl rfl rfl ?_
      exact ih (k + 1) _ (by omega) (by omega)
theorem rx_usedShare  (hI : jIx N0 u0 H tm er T h) : mj_Ok 40 308 [.ref 0] h (rEx N0 u0 H tm er T) := by
  refine mj_Ok.of (M := mj_m308) rfl rfl rfl ?_
  obtain ⟨S, N, B, X, V, hs, K⟩ := hI
  iterate 2 refine mj_T.pl rfl rfl rfl rfl ?_
  refine rT_put (v := 0) hs rfl rfl (by decide) rfl (fun g6 hs6 => ?_)
  have K6 := K.put (k := 3) (v := 0) ⟨by decide, by decide⟩ (by decide) (by decide) (by decide) (by decide) (by decide)
  generalize jvu S 3 0 = S6 at hs6 K6
  iterate 4 refine mj_T.pl rfl rfl rfl rfl ?_
  exact rx_usedShare_loop hs6 K6 6 0 0 (by omega) (by decide)
theorem rx_append {x1 x2 x3 x4 x5 : Int32} {tm0 : Nat} (hI : jIx N0 u0 H (tm0 : Int) er T h) : mj_Ok 40 285 [.ref 0, .int x1, .int x2, .int x3, .int x4, .int x5] h (fun r => (200 < tm0 + jcn x1 x2 x3 x4 x5 20 ∧ ∃ h', jItx N0 u0 H 1 tm0 er T h' ∧ r = (.inl (some (.int (jn 0))), h')) ∨ (tm0 + jcn x1 x2 x3 x4 x5 20 ≤ 200 ∧ ∃ h', jItx N0 u0 H 0 ((tm0 + jcn x1 x2 x3 x4 x5 20 : Nat) : Int) er (apT x1 x2 x3 x4 x5 tm0 T 20) h' ∧ r = (.inl (some (.int (jn ((tm0 + jcn x1 x2 x3 x4 x5 20 : Nat) : Int)))), h'))) := by
  refine mj_Ok.of (M := mj_m285) rfl rfl rfl ?_
  obtain ⟨S, N, B, X, V, hs, K⟩ := hI
  iterate 2 refine mj_T.pl rfl rfl rfl rfl ?_
  refine rT_put (v := 0) hs rfl rfl (by decide) rfl (fun h1 hs1 => ?_)
  have K1 := K.put (k := 3) (v := 0) ⟨by decide, by decide⟩ (by decide) (by decide) (by decide) (by decide) (by decide)
  have e3 : jvu S 3 0 3 = 0 := jvu_at _ _ _
  generalize jvu S 3 0 = S1 at hs1 K1 e3
  have k4 := K1.1.2.2.2.1
  have k9 := K1.1.2.2.2.2.2.2.2.2
  have hle := jcn_le x1 x2 x3 x4 x5 20
  iterate 4 refine mj_T.pl rfl rfl rfl rfl ?_
  refine jb_count (D := 38) (a := 0) (rS_f hs1) ?_ 20 0 (by omega)
  refine mj_T.pl rfl rfl rfl rfl ?_
  refine rT_get hs1 rfl rfl ?_
  rw [k4.1]
  refine mj_T.pl rfl rfl rfl rfl ?_
  refine mj_T.iadd (a := (tm0 : Int)) (b := ((jcn x1 x2 x3 x4 x5 20 : Nat) : Int)) rfl ?_
  rw [show (tm0 : Int) + ((jcn x1 x2 x3 x4 x5 20 : Nat) : Int) = ((tm0 + jcn x1 x2 x3 x4 x5 20 : Nat) : Int) by omega]
  refine mj_T.pl rfl rfl rfl rfl ?_
  refine mj_T.icmp (a := ((tm0 + jcn x1 x2 x3 x4 x5 20 : Nat) : Int)) (b := 200) rfl ⟨by omega, by omega⟩ ⟨by decide, by decide⟩ (fun hc => ?_) (fun hc => ?_)
  · simp only [jc, decide_eq_true_eq] at hc
    iterate 2 refine mj_T.pl rfl rfl rfl rfl ?_
    have es : jvu S1 9 (tm0 : Int) = S1 := funext fun x => by
      unfold jvu
      split
      · rename_i q
        rw [q, k4.1]
      · rfl
    refine rp_ap_loop (S := S1) (N := N) (B := B) (X := X) (V := V) (T0 := T) (tm0 := tm0) (by omega) (fun k hk => jcn_mono x1 x2 x3 x4 x5 20 hk) (fun h2 hs2 => Or.inr ⟨by omega, h2, ⟨_, _, _, _, _, hs2, K1.text (by omega) (fun j hj2 => apT_ok x1 x2 x3 x4 x5 (fun j2 hj3 => k9 j2 (by omega)) 20 j hj2), by rw [jvu_ne _ _ _ (by decide)]; exact e3⟩, rfl⟩) 20 0 h1 _ (by omega) ?_
    show rS (jvu S1 9 ((tm0 + 0 : Nat) : Int)) N B T X V h1
    rw [Nat.add_zero, es]
    exact hs1
  simp only [jc, decide_eq_false_iff_not] at hc
  iterate 2 refine mj_T.pl rfl rfl rfl rfl ?_
  refine mj_T.call (ins := .invokevirtual 198) rfl rfl (Nat.le_of_ble_eq_true rfl) (Nat.le_of_ble_eq_true rfl) (by simp [mj_recv, rS_f hs1]) rfl (mj_Ok.up (by decide) (rp_fails (D := 0) (c := 1) hs1)) (fun v' h2 hq' => ?_) (fun i h' hq' => by obtain ⟨_, _, h⟩ := hq'; cases h)
  obtain ⟨_, hs2, hq'⟩ := hq'
  cases hq'
  exact mj_T.ret rfl rfl rfl (Or.inl ⟨by omega, h2, ⟨_, _, _, _, _, hs2, K1.put ⟨by decide, by decide⟩ (by decide) (by decide) (by decide) (by decide) (by decide), jvu_at _ _ _⟩, rfl⟩)
theorem rx_er_in {S N B X : Nat → Int} {a : Nat} (ha : a ≤ 5) (K : jKx N0 u0 H tm er S N B T) {Q : mj_R → Prop} (hend : ∀ (V : Nat → Int) (h : mj_H), rS S N B T X V h → mj_T 39 mj_m309 125 [some (.ref 0), some (.int (jn 0)), some (.int (jn (a : Int))), some (.int (jn 6))] [] h Q) :
    ∀ (m b : Nat) (V : Nat → Int) (h : mj_H), b + m = 6 → rS S N B T X V h → mj_T 39 mj_m309 19 [some (.ref 0), some (.int (jn 0)), some (.int (jn (a : Int))), some (.int (jn (b : Int)))] [] h Q := by
  intro m
  induction m with
  | zero =>
    intro b V h hb hs
    have hb : b = 6 := by omega
    subst hb
    iterate 2 refine mj_T.pl rfl rfl rfl rfl ?_
    refine mj_T.icmp (a := ((6 : Nat) : Int)) (b := 6) rfl ⟨by decide, by decide⟩ ⟨by decide, by decide⟩ (fun hc => ?_) (fun hc => ?_)
    · exact hend V h hs
    · simp [jc] at hc
  | succ m ih =>
    intro b V h hb hs
    iterate 2 refine mj_T.pl rfl rfl rfl rfl ?_
    refine mj_T.icmp (a := (b : Int)) (b := 6) rfl ⟨by omega, by omega⟩ ⟨by decide, by decide⟩ (fun hc => ?_) (fun hc => ?_)
    · simp only [jc, decide_eq_true_eq] at hc
      omega
    have t119 : ∀ (V2 : Nat → Int) (h2 : mj_H), rS S N B T X V2 h2 → mj_T 39 mj_m309 119 [some (.ref 0), some (.int (jn 0)), some (.int (jn (a : Int))), some (.int (jn (b : Int)))] [] h2 Q := fun V2 h2 hs2 => by
      refine mj_T.iinc (a := (b : Int)) rfl rfl ?_
      refine mj_T.pl rfl rfl rfl rfl ?_
      exact ih (b + 1) V2 h2 (by omega) hs2
    iterate 2 refine mj_T.pl rfl rfl rfl rfl ?_
    refine mj_T.call (ins := .invokevirtual 232) rfl rfl (Nat.le_of_ble_eq_true rfl) (Nat.le_of_ble_eq_true rfl) (by simp [mj_recv, rS_f hs]) rfl (mj_Ok.up (by decide) (rp_isZero (D := 0) (r := a) (by omega) K.nR hs)) (fun v' h' hq' => ?_) (fun i h' hq' => by rcases hq' with ⟨_, h⟩ | ⟨_, h⟩ <;> cases h)
    rcases hq' with ⟨_, hq'⟩ | ⟨nza, hq'⟩
    case' inl =>
      cases hq'
      refine mj_T.if0 (a := 1) rfl ⟨by decide, by decide⟩ (fun hc => ?_) (fun hc => ?_)
      · exact t119 V h hs
      · simp [jc] at hc
    cases hq'
    refine mj_T.if0 (a := 0) rfl ⟨by decide, by decide⟩ (fun hc => ?_) (fun hc => ?_)
    · simp [jc] at hc
    iterate 2 refine mj_T.pl rfl rfl rfl rfl ?_
    refine mj_T.call (ins := .invokevirtual 232) rfl rfl (Nat.le_of_ble_eq_true rfl) (Nat.le_of_ble_eq_true rfl) (by simp [mj_recv, rS_f hs]) rfl (mj_Ok.up (by decide) (rp_isZero (D := 0) (r := b) (by omega) K.nR hs)) (fun v' h' hq' => ?_) (fun i h' hq' => by rcases hq' with ⟨_, h⟩ | ⟨_, h⟩ <;> cases h)
    rcases hq' with ⟨_, hq'⟩ | ⟨nzb, hq'⟩
    case' inl =>
      cases hq'
      refine mj_T.if0 (a := 1) rfl ⟨by decide, by decide⟩ (fun hc => ?_) (fun hc => ?_)
      · simp [jc] at hc
      refine mj_T.pl rfl rfl rfl rfl ?_
      exact t119 V h hs
    cases hq'
    refine mj_T.if0 (a := 0) rfl ⟨by decide, by decide⟩ (fun hc => ?_) (fun hc => ?_)
    rotate_left
    · simp [jc] at hc
    have hda := jdg_le N a 13
    have hna := jdg_ne N a 13 nza
    obtain ⟨da, ea⟩ : ∃ d, jdg N a 13 = d + 1 := ⟨jdg N a 13 - 1, by omega⟩
    rw [ea, Nat.add_sub_cancel] at hna
    have hga := K.1.1.1 (a * 13 + da) (by omega)
    have hdb := jdg_le N b 13
    have hnb := jdg_ne N b 13 nzb
    obtain ⟨db, eb⟩ : ∃ d, jdg N b 13 = d + 1 := ⟨jdg N b 13 - 1, by omega⟩
    rw [eb, Nat.add_sub_cancel] at hnb
    have hgb := K.1.1.1 (b * 13 + db) (by omega)
    iterate 3 refine mj_T.pl rfl rfl rfl rfl ?_
    refine rT_get hs rfl rfl ?_
    iterate 2 refine mj_T.pl rfl rfl rfl rfl ?_
    refine mj_T.imul (a := (a : Int)) (b := 13) rfl ?_
    iterate 2 refine mj_T.pl rfl rfl rfl rfl ?_
    refine mj_T.call (ins := .invokevirtual 185) rfl rfl (Nat.le_of_ble_eq_true rfl) (Nat.le_of_ble_eq_true rfl) (by simp [mj_recv, rS_f hs]) rfl (mj_Ok.up (by decide) (rp_degreeIn (D := 0) (r := a) (by omega) K.nR hs)) (fun v' h' hq' => ?_) (fun i h' hq' => by cases hq')
    cases hq'
    rw [ea, show ((da + 1 : Nat) : Int) - 1 = (da : Int) by omega]
    refine mj_T.iadd rfl ?_
    rw [show (a : Int) * 13 + (da : Int) = ((a * 13 + da : Nat) : Int) by omega]
    refine rT_ldN hs rfl ⟨by omega, by omega⟩ ?_
    rw [Int.toNat_natCast]
    refine mj_T.call (ins := .invokevirtual 45) rfl rfl (Nat.le_of_ble_eq_true rfl) (Nat.le_of_ble_eq_true rfl) (by simp [mj_recv, rS_f hs]) rfl (mj_Ok.up (by decide) (jS_sets (D := 0) (rG S N B T X) (s := 652) (v := N (a * 13 + da)) (by decide) (K.nR _ (by omega)) hs)) (fun v' g1 hq' => ?_) (fun i h' hq' => by obtain ⟨_, _, h⟩ := hq'; cases h)
    obtain ⟨_, hs1, hq'⟩ := hq'
    cases hq'
    have u11 : jvu V 652 (N (a * 13 + da)) 652 = N (a * 13 + da) := jvu_at _ _ _
    have u12 : ∀ s, s ≠ 652 → jvu V 652 (N (a * 13 + da)) s = V s := fun s hne => jvu_ne _ _ _ hne
    generalize jvu V 652 (N (a * 13 + da)) = W1 at hs1 u11 u12
    iterate 3 refine mj_T.pl rfl rfl rfl rfl ?_
    refine rT_get hs1 rfl rfl ?_
    iterate 2 refine mj_T.pl rfl rfl rfl rfl ?_
    refine mj_T.imul (a := (b : Int)) (b := 13) rfl ?_
    iterate 2 refine mj_T.pl rfl rfl rfl rfl ?_
    refine mj_T.call (ins := .invokevirtual 185) rfl rfl (Nat.le_of_ble_eq_true rfl) (Nat.le_of_ble_eq_true rfl) (by simp [mj_recv, rS_f hs1]) rfl (mj_Ok.up (by decide) (rp_degreeIn (D := 0) (r := b) (by omega) K.nR hs1)) (fun v' h' hq' => ?_) (fun i h' hq' => by cases hq')
    cases hq'
    rw [eb, show ((db + 1 : Nat) : Int) - 1 = (db : Int) by omega]
    refine mj_T.iadd rfl ?_
    rw [show (b : Int) * 13 + (db : Int) = ((b * 13 + db : Nat) : Int) by omega]
    refine rT_ldN hs1 rfl ⟨by omega, by omega⟩ ?_
    rw [Int.toNat_natCast]
    refine mj_T.call (ins := .invokevirtual 45) rfl rfl (Nat.le_of_ble_eq_true rfl) (Nat.le_of_ble_eq_true rfl) (by simp [mj_recv, rS_f hs1]) rfl (mj_Ok.up (by decide) (jS_sets (D := 0) (rG S N B T X) (s := 653) (v := N (b * 13 + db)) (by decide) (K.nR _ (by omega)) hs1)) (fun v' g2 hq' => ?_) (fun i h' hq' => by obtain ⟨_, _, h⟩ := hq'; cases h)
    obtain ⟨_, hs2, hq'⟩ := hq'
    cases hq'
    have u21 : jvu W1 653 (N (b * 13 + db)) 653 = N (b * 13 + db) := jvu_at _ _ _
    have u22 : ∀ s, s ≠ 653 → jvu W1 653 (N (b * 13 + db)) s = W1 s := fun s hne => jvu_ne _ _ _ hne
    generalize jvu W1 653 (N (b * 13 + db)) = W2 at hs2 u21 u22
    iterate 4 refine mj_T.pl rfl rfl rfl rfl ?_
    have hm : (W2 652 * W2 653).natAbs ≤ 10 ^ 18 * 10 ^ 18 := by
      rw [u21, u22 652 (by decide), u11, Int.natAbs_mul]
      exact Nat.mul_le_mul (by omega) (by omega)
    have hne : W2 652 * W2 653 ≠ 0 := fun e => by
      rw [u21, u22 652 (by decide), u11] at e
      rcases Int.mul_eq_zero.mp e with q | q
      · exact hna q
      · exact hnb q
    refine mj_T.call (ins := .invokevirtual 117) rfl rfl (Nat.le_of_ble_eq_true rfl) (Nat.le_of_ble_eq_true rfl) (by simp [mj_recv, rS_f hs2]) rfl (mj_Ok.up (by decide) (jS_mul (D := 0) (V := W2) (rG S N B T X) (to := 654) (a := 652) (b := 653) (by decide) (by decide) (by decide) (jnl_of_lt hm rp_er1) hs2)) (fun v' g3 hq' => ?_) (fun i h' hq' => by obtain ⟨_, _, h⟩ := hq'; cases h)
    obtain ⟨_, hs3, hq'⟩ := hq'
    cases hq'
    have u3 : jvu W2 654 (W2 652 * W2 653) 654 = W2 652 * W2 653 := jvu_at _ _ _
    generalize jvu W2 654 (W2 652 * W2 653) = W3 at hs3 u3
    iterate 3 refine mj_T.pl rfl rfl rfl rfl ?_
    refine mj_T.call (ins := .invokevirtual 68) rfl rfl (Nat.le_of_ble_eq_true rfl) (Nat.le_of_ble_eq_true rfl) (by simp [mj_recv, rS_f hs3]) rfl (mj_Ok.up (by decide) (jS_sign (D := 0) (rG S N B T X) (s := 654) (by decide) hs3)) (fun v' h' hq' => ?_) (fun i h' hq' => by cases hq')
    cases hq'
    have hsr := jsg_range (W3 654)
    refine mj_T.if0 (a := jsg (W3 654)) rfl ⟨by omega, by omega⟩ (fun hc2 => ?_) (fun hc2 => ?_)
    · refine mj_T.pl rfl rfl rfl rfl ?_
      refine mj_T.iadd (a := 0) (b := 0) rfl ?_
      refine mj_T.pl rfl rfl rfl rfl ?_
      exact t119 W3 _ hs3
    · simp only [jc, Bool.not_eq_false', decide_eq_true_eq] at hc2
      rcases (show W3 654 < 0 ∨ W3 654 = 0 ∨ 0 < W3 654 by omega) with q | q | q
      · rw [jsg_neg q] at hc2
        exact absurd hc2 (by decide)
      · rw [u3] at q
        exact absurd q hne
      · rw [jsg_pos q] at hc2
        exact absurd hc2 (by decide)
theorem rx_er_out {S N B X : Nat → Int} (K : jKx N0 u0 H tm er S N B T) {Q : mj_R → Prop} (hend : ∀ (V : Nat → Int) (h : mj_H), rS S N B T X V h → Q (.inl (some (.int (jn 0))), h)) :
    ∀ (m a : Nat) (V : Nat → Int) (h : mj_H) (l3 : Option Value), a + m = 6 → rS S N B T X V h → mj_T 39 mj_m309 9 [some (.ref 0), some (.int (jn 0)), some (.int (jn (a : Int))), l3] [] h Q := by
  intro m
  induction m with
  | zero =>
    intro a V h l3 ha hs
    have ha : a = 6 := by omega
    subst ha
    iterate 2 refine mj_T.pl rfl rfl rfl rfl ?_
    refine mj_T.icmp (a := ((6 : Nat) : Int)) (b := 6) rfl ⟨by decide, by decide⟩ ⟨by decide, by decide⟩ (fun hc => ?_) (fun hc => ?_)
    · refine mj_T.pl rfl rfl rfl rfl ?_
      exact mj_T.ret rfl rfl rfl (hend V h hs)
    · simp [jc] at hc
  | succ m ih =>
    intro a V h l3 ha hs
    iterate 2 refine mj_T.pl rfl rfl rfl rfl ?_
    refine mj_T.icmp (a := (a : Int)) (b := 6) rfl ⟨by omega, by omega⟩ ⟨by decide, by decide⟩ (fun hc => ?_) (fun hc => ?_)
    · simp only [jc, decide_eq_true_eq] at hc
      omega
    iterate 2 refine mj_T.pl rfl rfl rfl rfl ?_
    refine mj_T.iadd (a := (a : Int)) (b := 1) rfl ?_
    rw [show (a : Int) + 1 = ((a + 1 : Nat) : Int) by omega]
    refine mj_T.pl rfl rfl rfl rfl ?_
    refine rx_er_in (by omega) K (fun V2 h2 hs2 => ?_) (5 - a) (a + 1) V h (by omega) hs
    refine mj_T.iinc (a := (a : Int)) rfl rfl ?_
    refine mj_T.pl rfl rfl rfl rfl ?_
    exact ih (a + 1) V2 h2 _ (by omega) hs2
theorem rx_errors  (hI : jIx N0 u0 H tm er T h) : mj_Ok 40 309 [.ref 0] h (fun r => ∃ h2, r = (.inl (some (.int (jn 0))), h2) ∧ jIx N0 u0 H tm er T h2) := by
  refine mj_Ok.of (M := mj_m309) rfl rfl rfl ?_
  obtain ⟨S, N, B, X, V, hs, K⟩ := hI
  iterate 2 refine mj_T.pl rfl rfl rfl rfl ?_
  refine rT_put (v := 0) hs rfl rfl (by decide) rfl (fun g1 hs1 => ?_)
  have K1 := K.put (k := 3) (v := 0) ⟨by decide, by decide⟩ (by decide) (by decide) (by decide) (by decide) (by decide)
  generalize jvu S 3 0 = S1 at hs1 K1
  iterate 4 refine mj_T.pl rfl rfl rfl rfl ?_
  exact rx_er_out (S := S1) (N := N) (B := B) (X := X) K1 (fun V2 h2 hs2 => ⟨h2, rfl, ⟨_, _, _, _, _, hs2, K1⟩⟩) 6 0 _ _ none (by omega) hs1
end RPX
/-! The reference, exactly: a state kept, a polynomial laid into a register. -/
section RKX
variable {S N B T X V : Nat → Int} {h : mj_H} {D : Nat} {tm er : Int} {N0 : Nat → Int} {u0 : Nat} {H : Nat → Nat → Int}
theorem rx_keeps (K : jKx N0 u0 H tm er S N B T) (hs : rS S N B T X V h) : mj_Ok (D + 1) 227 [.ref 0] h (fun z => ∃ (S' B' : Nat → Int) (h' : mj_H), rS S' N B' T X V h' ∧ jKx N0 (upu u0) (pushH N0 H) tm er S' N B' T ∧ S' 3 = S 3 ∧ z = (.inl none, h')) := by
  obtain ⟨⟨k1, k2, k3, k4, k5, k6, k7, k8, k9⟩, kn, ku, kh⟩ := K
  have fin : ∀ (c : Nat) (B1 : Nat → Int) (h1 : mj_H), c ≤ 7 → rS (jvu S 2 c) N B1 T X V h1 → (∀ k : Nat, k < c → gN (fun j => B1 (k * 91 + j))) → (c + 1 = upu u0 ∧ ∀ k : Nat, k < c → ∀ j, j < 91 → B1 ((c - 1 - k) * 91 + j) = H k j) → mj_T D mj_m227 36 [some (.ref 0)] [] h1 (fun z => ∃ (S' B' : Nat → Int) (h' : mj_H), rS S' N B' T X V h' ∧ jKx N0 (upu u0) (pushH N0 H) tm er S' N B' T ∧ S' 3 = S 3 ∧ z = (.inl none, h')) := by
    intro c B1 h1 hc hs1 g1 hh
    refine mj_T.pl rfl rfl rfl rfl ?_
    refine rT_get hs1 rfl rfl ?_
    iterate 2 refine mj_T.pl rfl rfl rfl rfl ?_
    refine rT_get hs1 rfl rfl ?_
    refine mj_T.pl rfl rfl rfl rfl ?_
    refine rT_get (v := .int (jn (c : Int))) hs1 rfl (by rw [← jvu_at S 2 (c : Int)]; rfl) ?_
    refine mj_T.pl rfl rfl rfl rfl ?_
    refine mj_T.imul (a := (c : Int)) (b := 91) rfl ?_
    rw [show (c : Int) * 91 = ((c * 91 : Nat) : Int) by omega]
    refine mj_T.pl rfl rfl rfl rfl ?_
    refine rT_cpy (s := 0) (d := c * 91) (m := 91) (f := N) (g := B1) rfl rfl (rS_N hs1) (rS_B hs1) (by decide) (by omega) ⟨by decide, by omega, by decide⟩ (Nat.le_of_ble_eq_true rfl) ?_
    have hs2 := rS_setB (va_cpy N B1 0 (c * 91) 91) hs1
    generalize h1.set 2 _ = h2 at hs2
    iterate 2 refine mj_T.pl rfl rfl rfl rfl ?_
    refine rT_get (v := .int (jn (c : Int))) hs2 rfl (by rw [← jvu_at S 2 (c : Int)]; rfl) ?_
    refine mj_T.pl rfl rfl rfl rfl ?_
    refine mj_T.iadd (a := (c : Int)) (b := 1) rfl ?_
    rw [show (c : Int) + 1 = ((c + 1 : Nat) : Int) by omega]
    refine rT_put (v := ((c + 1 : Nat) : Int)) hs2 rfl rfl (by decide) rfl (fun h3 hs3 => ?_)
    rw [jvu_jvu] at hs3
    have e : ∀ x, x ≠ 2 → jvu S 2 ((c + 1 : Nat) : Int) x = S x := fun x hx => jvu_ne _ _ _ hx
    refine mj_T.ret rfl rfl rfl ⟨_, _, h3, hs3, ⟨⟨k1, ?_, fun k hk => ?_, by rw [e 9 (by decide)]; exact k4, by rw [e 12 (by decide)]; exact k5, by rw [e 15 (by decide)]; exact k6, fun x => ?_, by rw [e 13 (by decide)]; exact k8, k9⟩, kn, ?_, ?_⟩, e 3 (by decide), rfl⟩
    · rw [jvu_at]
      omega
    · rw [jvu_at] at hk
      by_cases q : k = c
      · subst q
        refine gN_congr (N := N) (fun j hj => ?_) k1
        show va_cpy N B1 0 (k * 91) 91 (k * 91 + j) = N j
        unfold va_cpy
        rw [if_pos (by omega), show 0 + (k * 91 + j - k * 91) = j by omega]
      · refine gN_congr (fun j hj => ?_) (g1 k (by omega))
        show va_cpy N B1 0 (c * 91) 91 (k * 91 + j) = B1 (k * 91 + j)
        unfold va_cpy
        rw [if_neg (by omega)]
    · by_cases q : x = 2
      · subst q
        rw [jvu_at]
        exact ⟨by omega, by omega⟩
      · rw [e x q]
        exact k7 x
    · rw [jvu_at, hh.1]
    · intro k hk j hj
      rw [← hh.1] at hk ⊢
      cases k with
      | zero =>
        show va_cpy N B1 0 (c * 91) 91 ((c + 1 - 1 - 0) * 91 + j) = N0 j
        unfold va_cpy
        rw [if_pos (by omega), show 0 + ((c + 1 - 1 - 0) * 91 + j - c * 91) = j by omega]
        exact kn j hj
      | succ k =>
        show va_cpy N B1 0 (c * 91) 91 ((c + 1 - 1 - (k + 1)) * 91 + j) = H k j
        unfold va_cpy
        rw [if_neg (by omega), show (c + 1 - 1 - (k + 1)) * 91 + j = (c - 1 - k) * 91 + j by omega]
        exact hh.2 k (by omega) j hj
  refine mj_Ok.of (M := mj_m227) rfl rfl rfl ?_
  refine mj_T.pl rfl rfl rfl rfl ?_
  refine rT_get hs rfl rfl ?_
  refine mj_T.pl rfl rfl rfl rfl ?_
  refine mj_T.icmp (a := S 2) (b := 8) rfl (k7 2) ⟨by decide, by decide⟩ (fun hc => ?_) (fun hc => ?_)
  · simp only [jc, Bool.not_eq_true', decide_eq_false_iff_not] at hc
    obtain ⟨c, hc2⟩ := Int.eq_ofNat_of_zero_le k2.1
    have hc3 : S 2 = ((c : Nat) : Int) := hc2
    have es : jvu S 2 ((c : Nat) : Int) = S := funext fun x => by
      unfold jvu
      split
      · rename_i q
        rw [q, hc3]
      · rfl
    exact fin c B h (by omega) (by rw [es]; exact hs) (fun k hk => k3 k (by omega)) ⟨by unfold upu; rw [if_pos (by omega)]; omega, fun k hk j hj => by
      rw [show (c - 1 - k) = (u0 - 1 - k) by omega]
      exact kh k (by omega) j hj⟩
  · simp only [jc, Bool.not_eq_false', decide_eq_true_eq] at hc
    refine mj_T.pl rfl rfl rfl rfl ?_
    refine rT_get hs rfl rfl ?_
    iterate 2 refine mj_T.pl rfl rfl rfl rfl ?_
    refine rT_get hs rfl rfl ?_
    iterate 2 refine mj_T.pl rfl rfl rfl rfl ?_
    refine rT_cpy (s := 91) (d := 0) (m := 637) (f := B) (g := B) rfl rfl (rS_B hs) (rS_B hs) (by decide) (by decide) ⟨by decide, by decide, by decide⟩ (Nat.le_of_ble_eq_true rfl) ?_
    have hs2 := rS_setB (va_cpy B B 91 0 637) hs
    generalize h.set 2 _ = h2 at hs2
    iterate 2 refine mj_T.pl rfl rfl rfl rfl ?_
    refine rT_get hs2 rfl rfl ?_
    refine mj_T.pl rfl rfl rfl rfl ?_
    refine mj_T.isub (a := S 2) (b := 1) rfl ?_
    rw [hc, show (8 : Int) - 1 = ((7 : Nat) : Int) by decide]
    refine rT_put (v := ((7 : Nat) : Int)) hs2 rfl rfl (by decide) rfl (fun h3 hs3 => ?_)
    refine fin 7 _ h3 (by decide) hs3 (fun k hk => ?_) ⟨by unfold upu; rw [if_neg (by omega)], fun k hk j hj => ?_⟩
    rotate_left
    · show va_cpy B B 91 0 637 ((7 - 1 - k) * 91 + j) = H k j
      unfold va_cpy
      rw [if_pos (by omega), show 91 + ((7 - 1 - k) * 91 + j - 0) = (u0 - 1 - k) * 91 + j by omega]
      exact kh k (by omega) j hj
    refine gN_congr (fun j hj => ?_) (k3 (k + 1) (by omega))
    show va_cpy B B 91 0 637 (k * 91 + j) = B ((k + 1) * 91 + j)
    unfold va_cpy
    rw [if_pos (by omega), show 91 + (k * 91 + j - 0) = (k + 1) * 91 + j by omega]
theorem jKx.row {N' N1 : Nat → Int} (K : jKx N0 u0 H tm er S N B T) (g : gN N') (e : ∀ j, j < 91 → N' j = N1 j) : jKx N1 u0 H tm er S N' B T := ⟨K.1.row g, e, K.2.2⟩
theorem jfl_cg {N N0 : Nat → Int} (h : ∀ j, j < 91 → N j = N0 j) (r : Nat) (w : Nat → Int) : ∀ j, j < 91 → jfl N r w 13 j = jfl N0 r w 13 j := fun j hj => by
  unfold jfl
  split
  · rfl
  · exact h j hj
/-- a polynomial is laid into a register, or it is too great and nothing changes -/
def rOx (tm er : Int) (T : Nat → Int) (N0 : Nat → Int) (u0 : Nat) (H : Nat → Nat → Int) (r : Nat) (w : Nat → Int) (z : mj_R) : Prop := (sml w ∧ rIx (jfl N0 r w 13) (upu u0) (pushH N0 H) tm er T z) ∨ (¬ sml w ∧ rIx N0 u0 H tm er T z)
theorem jib_no {V : Nat → Int} {p : Nat} : ∀ k, jib V p k = 0 → ¬ ∀ e, e < k → jnl (V (p * 13 + e)).natAbs ≤ 2
  | 0, h, _ => absurd h (by unfold jib; decide)
  | k + 1, h, q => by
    unfold jib at h
    split at h
    · rename_i y
      exact jib_no k y (fun e he => q e (by omega))
    · rw [if_pos (q k (by omega))] at h
      omega
theorem rx_puts {r p : Nat} {c : Int} (hr : r ≤ 5) (hp : p ≤ 50) (hc : jr c) (K : jKx N0 u0 H tm er S N B T) (hs : rS S N B T X V h) : mj_Ok (D + 5) 229 [.ref 0, .int (jn (r : Nat)), .int (jn (p : Nat)), .int (jn c)] h (rOx tm er T N0 u0 H r (fun e => V (p * 13 + e))) := by
  have hd := jdg_le V p 13
  refine mj_Ok.of (M := mj_m229) rfl rfl rfl ?_
  iterate 2 refine mj_T.pl rfl rfl rfl rfl ?_
  refine mj_T.call (ins := .invokevirtual 195) rfl rfl (Nat.le_of_ble_eq_true rfl) (Nat.le_of_ble_eq_true rfl) (by simp [mj_recv, rS_f hs]) rfl (jp_isInBounds (D := D + 2) (rG S N B T X) (p := p) hp (fun e he => jS_700 hs (by omega)) hs) (fun v' h' hq' => ?_) (fun i h' hq' => by cases hq')
  cases hq'
  have hb := jib_le V p 13
  refine mj_T.if0 (a := ((jib V p 13 : Nat) : Int)) rfl ⟨by omega, by omega⟩ (fun hc1 => ?_) (fun hc1 => ?_)
  · simp only [jc, Bool.not_eq_true', decide_eq_false_iff_not] at hc1
    have h2 := jib_one (V := V) (p := p) 13 (by omega)
    have h3 : ∀ e, e < 13 → -999999999999999999 ≤ V (p * 13 + e) ∧ V (p * 13 + e) ≤ 999999999999999999 := fun e he => by
      have k1 := jnl_le_lt.mp (h2 e he)
      rw [show jB ^ 2 = 1000000000000000000 from rfl] at k1
      omega
    refine mj_T.pl rfl rfl rfl rfl ?_
    refine mj_T.call (ins := .invokevirtual 201) rfl rfl (Nat.le_of_ble_eq_true rfl) (Nat.le_of_ble_eq_true rfl) (by simp [mj_recv, rS_f hs]) rfl (rx_keeps (D := D + 3) K hs) (fun v' h1 hq' => ?_) (fun i h' hq' => by obtain ⟨_, _, _, _, _, _, h⟩ := hq'; cases h)
    obtain ⟨S', B', _, hs1, K1, k1, hq'⟩ := hq'
    cases hq'
    iterate 3 refine mj_T.pl rfl rfl rfl rfl ?_
    refine mj_T.call (ins := .invokevirtual 204) rfl rfl (Nat.le_of_ble_eq_true rfl) (Nat.le_of_ble_eq_true rfl) (by simp [mj_recv, rS_f hs1]) rfl (rp_stores (D := D) (p := p) (r := r) hp hr hs1) (fun v' h2 hq' => ?_) (fun i h' hq' => by obtain ⟨_, _, h⟩ := hq'; cases h)
    obtain ⟨_, hs2, hq'⟩ := hq'
    cases hq'
    iterate 2 refine mj_T.pl rfl rfl rfl rfl ?_
    refine mj_T.call (ins := .invokevirtual 114) rfl rfl (Nat.le_of_ble_eq_true rfl) (Nat.le_of_ble_eq_true rfl) (by simp [mj_recv, rS_f hs2]) rfl (jp_degreeOf (D := D + 2) (rG S' (jfl N r (fun e => V (p * 13 + e)) 13) B' T X) (p := p) hp hs2) (fun v' h' hq' => ?_) (fun i h' hq' => by cases hq')
    cases hq'
    exact mj_T.ret rfl rfl rfl (Or.inl ⟨fun e he => by have := h3 e he; show (V (p * 13 + e)).natAbs ≤ 999999999999999999; omega, _, h2, ⟨by omega, by omega⟩, rfl, ⟨S', _, B', X, V, hs2, K1.row (gN_row K.1.1 hr h3) (jfl_cg K.2.1 r _)⟩⟩)
  simp only [jc, Bool.not_eq_false', decide_eq_true_eq] at hc1
  have hno : ¬ sml (fun e => V (p * 13 + e)) := fun q => jib_no (V := V) (p := p) 13 (by omega) (fun e he => jnl_two.mpr (q e he))
  iterate 2 refine mj_T.pl rfl rfl rfl rfl ?_
  refine mj_T.call (ins := .invokevirtual 198) rfl rfl (Nat.le_of_ble_eq_true rfl) (Nat.le_of_ble_eq_true rfl) (by simp [mj_recv, rS_f hs]) rfl (rp_fails (D := D + 3) (c := c) hs) (fun v' h1 hq' => ?_) (fun i h' hq' => by obtain ⟨_, _, h⟩ := hq'; cases h)
  obtain ⟨_, hs1, hq'⟩ := hq'
  cases hq'
  exact mj_T.ret rfl rfl rfl (Or.inr ⟨hno, 0, h1, ⟨by decide, by decide⟩, rfl, ⟨_, N, B, X, V, hs1, K.put hc (by decide) (by decide) (by decide) (by decide) (by decide)⟩⟩)
end RKX
/-! The reference, exactly: add, subtract. -/
/-- a call of the reference that lays a polynomial into a register -/
def RR (tm er : Int) (T : Nat → Int) (N0 : Nat → Int) (u0 : Nat) (H : Nat → Nat → Int) (reg : Prop) (res : (Nat → Int) → Prop) (to : Int) (z : mj_R) : Prop := (reg ∧ ∃ w, res w ∧ rOx tm er T N0 u0 H to.toNat w z) ∨ (¬ reg ∧ rIx N0 u0 H tm er T z)
section RGX
variable {h : mj_H} {D : Nat}
theorem rx_areRegisters {x y z : Int} (hx : jr x) (hy : jr y) (hz : jr z) : mj_Ok (D + 3) 224 [.int (jn x), .int (jn y), .int (jn z)] h (fun r => ((0 ≤ x ∧ x ≤ 5) ∧ (0 ≤ y ∧ y ≤ 5 ∧ 0 ≤ z ∧ z ≤ 5) ∧ r = (.inl (some (.int (jn 1))), h)) ∨ (¬ ((0 ≤ x ∧ x ≤ 5) ∧ (0 ≤ y ∧ y ≤ 5) ∧ (0 ≤ z ∧ z ≤ 5)) ∧ r = (.inl (some (.int (jn 0))), h))) := by
  refine mj_Ok.of (M := mj_m224) rfl rfl rfl ?_
  refine mj_T.pl rfl rfl rfl rfl ?_
  refine mj_T.call (ins := .invokestatic 181) rfl rfl (Nat.le_of_ble_eq_true rfl) (Nat.le_of_ble_eq_true rfl) rfl rfl (rp_isRegister (D := D) hx) (fun v' h1 hq' => ?_) (fun i h' hq' => by rcases hq' with ⟨_, _, h⟩ | ⟨_, h⟩ <;> cases h)
  rcases hq' with ⟨x1, x2, hq'⟩ | ⟨cn, hq'⟩
  case' inr =>
    cases hq'
    refine mj_T.if0 (a := 0) rfl ⟨by decide, by decide⟩ (fun hc => ?_) (fun hc => ?_)
    · refine mj_T.pl rfl rfl rfl rfl ?_
      exact mj_T.ret rfl rfl rfl (Or.inr ⟨by omega, rfl⟩)
    · simp [jc] at hc
  cases hq'
  refine mj_T.if0 (a := 1) rfl ⟨by decide, by decide⟩ (fun hc => ?_) (fun hc => ?_)
  · simp [jc] at hc
  refine mj_T.pl rfl rfl rfl rfl ?_
  refine mj_T.call (ins := .invokestatic 181) rfl rfl (Nat.le_of_ble_eq_true rfl) (Nat.le_of_ble_eq_true rfl) rfl rfl (rp_isRegister (D := D) hy) (fun v' h1 hq' => ?_) (fun i h' hq' => by rcases hq' with ⟨_, _, h⟩ | ⟨_, h⟩ <;> cases h)
  rcases hq' with ⟨y1, y2, hq'⟩ | ⟨cn, hq'⟩
  case' inr =>
    cases hq'
    refine mj_T.if0 (a := 0) rfl ⟨by decide, by decide⟩ (fun hc => ?_) (fun hc => ?_)
    · refine mj_T.pl rfl rfl rfl rfl ?_
      exact mj_T.ret rfl rfl rfl (Or.inr ⟨by omega, rfl⟩)
    · simp [jc] at hc
  cases hq'
  refine mj_T.if0 (a := 1) rfl ⟨by decide, by decide⟩ (fun hc => ?_) (fun hc => ?_)
  · simp [jc] at hc
  refine mj_T.pl rfl rfl rfl rfl ?_
  refine mj_T.call (ins := .invokestatic 181) rfl rfl (Nat.le_of_ble_eq_true rfl) (Nat.le_of_ble_eq_true rfl) rfl rfl (rp_isRegister (D := D) hz) (fun v' h1 hq' => ?_) (fun i h' hq' => by rcases hq' with ⟨_, _, h⟩ | ⟨_, h⟩ <;> cases h)
  rcases hq' with ⟨z1, z2, hq'⟩ | ⟨cn, hq'⟩
  case' inr =>
    cases hq'
    refine mj_T.if0 (a := 0) rfl ⟨by decide, by decide⟩ (fun hc => ?_) (fun hc => ?_)
    · refine mj_T.pl rfl rfl rfl rfl ?_
      exact mj_T.ret rfl rfl rfl (Or.inr ⟨by omega, rfl⟩)
    · simp [jc] at hc
  cases hq'
  refine mj_T.if0 (a := 1) rfl ⟨by decide, by decide⟩ (fun hc => ?_) (fun hc => ?_)
  · simp [jc] at hc
  iterate 2 refine mj_T.pl rfl rfl rfl rfl ?_
  exact mj_T.ret rfl rfl rfl (Or.inl ⟨⟨x1, x2⟩, ⟨y1, y2, z1, z2⟩, rfl⟩)
end RGX
section RPY
variable {h : mj_H} {tm er : Int} {T : Nat → Int} {N0 : Nat → Int} {u0 : Nat} {H : Nat → Nat → Int}
theorem rx_sums {x y z : Int} (hx : jr x) (hy : jr y) (hz : jr z) {f : Int} (hf : f = 1 ∨ f = -1) (hI : jIx N0 u0 H tm er T h) : mj_Ok 40 232 [.ref 0, .int (jn x), .int (jn y), .int (jn z), .int (jn f)] h (RR tm er T N0 u0 H ((0 ≤ x ∧ x ≤ 5) ∧ (0 ≤ y ∧ y ≤ 5) ∧ (0 ≤ z ∧ z ≤ 5)) (fun w => ∀ j, j < 13 → w j = sumN N0 f y z j) x) := by
  refine mj_Ok.of (M := mj_m232) rfl rfl rfl ?_
  obtain ⟨S, N, B, X, V, hs, K⟩ := hI
  iterate 2 refine mj_T.pl rfl rfl rfl rfl ?_
  refine rT_put (v := 0) hs rfl rfl (by decide) rfl (fun g1 hs1 => ?_)
  have K1 := K.put (k := 3) (v := 0) ⟨by decide, by decide⟩ (by decide) (by decide) (by decide) (by decide) (by decide)
  generalize jvu S 3 0 = S1 at hs1 K1
  iterate 3 refine mj_T.pl rfl rfl rfl rfl ?_
  refine mj_T.call (ins := .invokestatic 210) rfl rfl (Nat.le_of_ble_eq_true rfl) (Nat.le_of_ble_eq_true rfl) rfl rfl (mj_Ok.up (by decide) (rx_areRegisters (D := 0) hx hy hz)) (fun v' h' hq' => ?_) (fun i h' hq' => by rcases hq' with ⟨_, _, h⟩ | ⟨_, h⟩ <;> cases h)
  rcases hq' with ⟨⟨x1, x2⟩, ⟨y3, y4, z5, z6⟩, hq'⟩ | ⟨hno, hq'⟩
  case' inr =>
    cases hq'
    refine mj_T.if0 (a := 0) rfl ⟨by decide, by decide⟩ (fun hc => ?_) (fun hc => ?_)
    · simp [jc] at hc
    iterate 2 refine mj_T.pl rfl rfl rfl rfl ?_
    refine mj_T.call (ins := .invokevirtual 198) rfl rfl (Nat.le_of_ble_eq_true rfl) (Nat.le_of_ble_eq_true rfl) (by simp [mj_recv, rS_f hs1]) rfl (mj_Ok.up (by decide) (rp_fails (D := 0) (c := 1) hs1)) (fun v' g2 hq' => ?_) (fun i h' hq' => by obtain ⟨_, _, h⟩ := hq'; cases h)
    obtain ⟨_, hs2, hq'⟩ := hq'
    cases hq'
    exact mj_T.ret rfl rfl rfl (Or.inr ⟨hno, 0, g2, ⟨by decide, by decide⟩, rfl, ⟨_, N, B, X, V, hs2, K1.put ⟨by decide, by decide⟩ (by decide) (by decide) (by decide) (by decide) (by decide)⟩⟩)
  cases hq'
  refine mj_T.if0 (a := 1) rfl ⟨by decide, by decide⟩ (fun hc => ?_) (fun hc => ?_)
  rotate_left
  · simp [jc] at hc
  obtain ⟨x, rfl⟩ := Int.eq_ofNat_of_zero_le x1
  obtain ⟨y, rfl⟩ := Int.eq_ofNat_of_zero_le y3
  obtain ⟨z, rfl⟩ := Int.eq_ofNat_of_zero_le z5
  iterate 3 refine mj_T.pl rfl rfl rfl rfl ?_
  refine mj_T.call (ins := .invokevirtual 213) rfl rfl (Nat.le_of_ble_eq_true rfl) (Nat.le_of_ble_eq_true rfl) (by simp [mj_recv, rS_f hs1]) rfl (mj_Ok.up (by decide) (rp_loads (D := 0) (p := 0) (r := y) (by decide) (by omega) K1.nR hs1)) (fun v' g3 hq' => ?_) (fun i h' hq' => by obtain ⟨_, _, h⟩ := hq'; cases h)
  obtain ⟨_, hs3, hq'⟩ := hq'
  cases hq'
  have a3 : ∀ e, e < 13 → jfl V 0 (fun e => N (y * 13 + e)) 13 (0 * 13 + e) = N (y * 13 + e) := fun e he => jfl_at _ _ _ he
  have b3 : ∀ s, (s < 0 * 13 ∨ 0 * 13 + 13 ≤ s) → jfl V 0 (fun e => N (y * 13 + e)) 13 s = V s := fun s hc => jfl_off _ _ _ hc
  generalize jfl V 0 (fun e => N (y * 13 + e)) 13 = W3 at hs3 a3 b3
  iterate 3 refine mj_T.pl rfl rfl rfl rfl ?_
  refine mj_T.call (ins := .invokevirtual 213) rfl rfl (Nat.le_of_ble_eq_true rfl) (Nat.le_of_ble_eq_true rfl) (by simp [mj_recv, rS_f hs3]) rfl (mj_Ok.up (by decide) (rp_loads (D := 0) (p := 1) (r := z) (by decide) (by omega) K1.nR hs3)) (fun v' g4 hq' => ?_) (fun i h' hq' => by obtain ⟨_, _, h⟩ := hq'; cases h)
  obtain ⟨_, hs4, hq'⟩ := hq'
  cases hq'
  have a4 : ∀ e, e < 13 → jfl W3 1 (fun e => N (z * 13 + e)) 13 (1 * 13 + e) = N (z * 13 + e) := fun e he => jfl_at _ _ _ he
  have b4 : ∀ s, (s < 1 * 13 ∨ 1 * 13 + 13 ≤ s) → jfl W3 1 (fun e => N (z * 13 + e)) 13 s = W3 s := fun s hc => jfl_off _ _ _ hc
  generalize jfl W3 1 (fun e => N (z * 13 + e)) 13 = W4 at hs4 a4 b4
  have c0 : ∀ e, e < 13 → (W4 (0 * 13 + e) + f * W4 (1 * 13 + e)).natAbs ≤ 10 ^ 18 + 10 ^ 18 := fun e he => by
    rw [a4 e he, b4 _ (by omega), a3 e he]
    have h1 := K1.sh (r := y) (e := e) (by omega) he
    have h2 := K1.sh (r := z) (e := e) (by omega) he
    rcases hf with q | q <;> subst q <;> omega
  iterate 5 refine mj_T.pl rfl rfl rfl rfl ?_
  refine mj_T.call (ins := .invokevirtual 216) rfl rfl (Nat.le_of_ble_eq_true rfl) (Nat.le_of_ble_eq_true rfl) (by simp [mj_recv, rS_f hs4]) rfl (mj_Ok.up (by decide) (jp_addsPoly (D := 0) (rG S1 N B T X) (p := 0) (a := 0) (b := 1) (f := f) (by decide) (by decide) (by decide) hf (fun e he => jnl_of_lt (c0 e he) rp_small) hs4)) (fun v' g5 hq' => ?_) (fun i h' hq' => by obtain ⟨_, _, h⟩ := hq'; cases h)
  obtain ⟨_, hs5, hq'⟩ := hq'
  cases hq'
  iterate 4 refine mj_T.pl rfl rfl rfl rfl ?_
  refine mj_T.call (ins := .invokevirtual 219) rfl rfl (Nat.le_of_ble_eq_true rfl) (Nat.le_of_ble_eq_true rfl) (by simp [mj_recv, rS_f hs5]) rfl (mj_Ok.up (by decide) (rx_puts (D := 0) (r := x) (p := 0) (c := 2) (by omega) (by decide) ⟨by decide, by decide⟩ K1 hs5)) (fun v' h' hq' => ?_) (fun i h' hq' => by rcases hq' with ⟨_, _, _, _, h, _⟩ | ⟨_, _, _, _, h, _⟩ <;> cases h)
  have hN : ∀ r e, r ≤ 5 → e < 13 → N (r * 13 + e) = rwN N0 (r : Int) e := fun r e hr he => by
    show _ = if e < 13 then N0 ((r : Int).toNat * 13 + e) else 0
    rw [if_pos he, Int.toNat_natCast]
    exact K1.2.1 _ (by omega)
  have hres : ∀ j, j < 13 → (fun e => (jfl W4 0 (fun e => W4 (0 * 13 + e) + f * W4 (1 * 13 + e)) 13) (0 * 13 + e)) j = sumN N0 f (y : Int) (z : Int) j := fun j hj => by
    show (jfl W4 0 (fun e => W4 (0 * 13 + e) + f * W4 (1 * 13 + e)) 13) (0 * 13 + j) = rwN N0 (y : Int) j + f * rwN N0 (z : Int) j
    rw [jfl_at _ _ _ hj, a4 j hj, b4 _ (by omega), a3 j hj, hN y j (by omega) hj, hN z j (by omega) hj]
  rcases hq' with ⟨hs9, z9, h9, hz9, e9, hI9⟩ | ⟨hs9, z9, h9, hz9, e9, hI9⟩
  · cases e9
    exact mj_T.ret rfl rfl rfl (Or.inl ⟨⟨⟨by omega, by omega⟩, ⟨by omega, by omega⟩, ⟨by omega, by omega⟩⟩, _, hres, Or.inl ⟨hs9, z9, _, hz9, rfl, hI9⟩⟩)
  · cases e9
    exact mj_T.ret rfl rfl rfl (Or.inl ⟨⟨⟨by omega, by omega⟩, ⟨by omega, by omega⟩, ⟨by omega, by omega⟩⟩, _, hres, Or.inr ⟨hs9, z9, _, hz9, rfl, hI9⟩⟩)
theorem rx_add {x y z : Int} (hx : jr x) (hy : jr y) (hz : jr z) (hI : jIx N0 u0 H tm er T h) : mj_Ok 41 230 [.ref 0, .int (jn x), .int (jn y), .int (jn z)] h (RR tm er T N0 u0 H ((0 ≤ x ∧ x ≤ 5) ∧ (0 ≤ y ∧ y ≤ 5) ∧ (0 ≤ z ∧ z ≤ 5)) (fun w => ∀ j, j < 13 → w j = sumN N0 1 y z j) x) := by
  refine mj_Ok.of (M := mj_m230) rfl rfl rfl ?_
  have hI0 := hI
  obtain ⟨S, N, B, X, V, hs, K⟩ := hI0
  iterate 5 refine mj_T.pl rfl rfl rfl rfl ?_
  refine mj_T.call (ins := .invokevirtual 207) rfl rfl (Nat.le_of_ble_eq_true rfl) (Nat.le_of_ble_eq_true rfl) (by simp [mj_recv, rS_f hs]) rfl (rx_sums (f := 1) hx hy hz (Or.inl rfl) hI) (fun v' h9 hq' => ?_) (fun i h' hq' => by rcases hq' with ⟨_, _, _, ⟨_, _, _, _, h, _⟩ | ⟨_, _, _, _, h, _⟩⟩ | ⟨_, _, _, _, h, _⟩ <;> cases h)
  rcases hq' with ⟨hr, w, hw, ⟨hs9, z9, h9, hz9, e9, hI9⟩ | ⟨hs9, z9, h9, hz9, e9, hI9⟩⟩ | ⟨hr, z9, h9, hz9, e9, hI9⟩
  · cases e9
    exact mj_T.ret rfl rfl rfl (Or.inl ⟨hr, w, hw, Or.inl ⟨hs9, z9, _, hz9, rfl, hI9⟩⟩)
  · cases e9
    exact mj_T.ret rfl rfl rfl (Or.inl ⟨hr, w, hw, Or.inr ⟨hs9, z9, _, hz9, rfl, hI9⟩⟩)
  · cases e9
    exact mj_T.ret rfl rfl rfl (Or.inr ⟨hr, z9, _, hz9, rfl, hI9⟩)
theorem rx_subtract {x y z : Int} (hx : jr x) (hy : jr y) (hz : jr z) (hI : jIx N0 u0 H tm er T h) : mj_Ok 41 231 [.ref 0, .int (jn x), .int (jn y), .int (jn z)] h (RR tm er T N0 u0 H ((0 ≤ x ∧ x ≤ 5) ∧ (0 ≤ y ∧ y ≤ 5) ∧ (0 ≤ z ∧ z ≤ 5)) (fun w => ∀ j, j < 13 → w j = sumN N0 (-1) y z j) x) := by
  refine mj_Ok.of (M := mj_m231) rfl rfl rfl ?_
  have hI0 := hI
  obtain ⟨S, N, B, X, V, hs, K⟩ := hI0
  iterate 5 refine mj_T.pl rfl rfl rfl rfl ?_
  refine mj_T.call (ins := .invokevirtual 207) rfl rfl (Nat.le_of_ble_eq_true rfl) (Nat.le_of_ble_eq_true rfl) (by simp [mj_recv, rS_f hs]) rfl (rx_sums (f := -1) hx hy hz (Or.inr rfl) hI) (fun v' h9 hq' => ?_) (fun i h' hq' => by rcases hq' with ⟨_, _, _, ⟨_, _, _, _, h, _⟩ | ⟨_, _, _, _, h, _⟩⟩ | ⟨_, _, _, _, h, _⟩ <;> cases h)
  rcases hq' with ⟨hr, w, hw, ⟨hs9, z9, h9, hz9, e9, hI9⟩ | ⟨hs9, z9, h9, hz9, e9, hI9⟩⟩ | ⟨hr, z9, h9, hz9, e9, hI9⟩
  · cases e9
    exact mj_T.ret rfl rfl rfl (Or.inl ⟨hr, w, hw, Or.inl ⟨hs9, z9, _, hz9, rfl, hI9⟩⟩)
  · cases e9
    exact mj_T.ret rfl rfl rfl (Or.inl ⟨hr, w, hw, Or.inr ⟨hs9, z9, _, hz9, rfl, hI9⟩⟩)
  · cases e9
    exact mj_T.ret rfl rfl rfl (Or.inr ⟨hr, z9, _, hz9, rfl, hI9⟩)
end RPY
/-! The reference, exactly: clearPoints, undo. -/
section RPZ
variable {h : mj_H} {tm er : Int} {T : Nat → Int} {N0 : Nat → Int} {u0 : Nat} {H : Nat → Nat → Int}
theorem rx_clearPoints  (hI : jIx N0 u0 H tm er T h) : mj_Ok 40 247 [.ref 0] h (rIx (jvu N0 78 0) (upu u0) (pushH N0 H) tm er T) := by
  refine mj_Ok.of (M := mj_m247) rfl rfl rfl ?_
  obtain ⟨S, N, B, X, V, hs, K⟩ := hI
  iterate 2 refine mj_T.pl rfl rfl rfl rfl ?_
  refine rT_put (v := 0) hs rfl rfl (by decide) rfl (fun g13 hs13 => ?_)
  have K13 := K.put (k := 3) (v := 0) ⟨by decide, by decide⟩ (by decide) (by decide) (by decide) (by decide) (by decide)
  generalize jvu S 3 0 = S13 at hs13 K13
  refine mj_T.pl rfl rfl rfl rfl ?_
  refine mj_T.call (ins := .invokevirtual 201) rfl rfl (Nat.le_of_ble_eq_true rfl) (Nat.le_of_ble_eq_true rfl) (by simp [mj_recv, rS_f hs13]) rfl (mj_Ok.up (by decide) (rx_keeps (D := 0) K13 hs13)) (fun v' g14 hq' => ?_) (fun i h' hq' => by obtain ⟨_, _, _, _, _, _, h⟩ := hq'; cases h)
  obtain ⟨S14, B14, _, hs14, K14, _, hq'⟩ := hq'
  cases hq'
  refine mj_T.pl rfl rfl rfl rfl ?_
  refine rT_get hs14 rfl rfl ?_
  refine mj_T.pl rfl rfl rfl rfl ?_
  refine rT_ldN (i := ((78 : Nat) : Int)) hs14 rfl ⟨by decide, by decide⟩ ?_
  rw [Int.toNat_natCast]
  refine mj_T.l2i rfl ?_
  iterate 2 refine mj_T.pl rfl rfl rfl rfl ?_
  refine rT_get hs14 rfl rfl ?_
  iterate 2 refine mj_T.pl rfl rfl rfl rfl ?_
  refine rT_stN (i := ((78 : Nat) : Int)) (z := 0) hs14 rfl ⟨by decide, by decide⟩ (fun g15 hs15 => ?_)
  rw [Int.toNat_natCast] at hs15
  have hg := K14.1.1
  obtain ⟨q1, q2, q3, q4⟩ := hg
  have K15 := K14.row (N' := jvu N 78 0) ⟨fun j hj => by rw [jvu_ne _ _ _ (by omega)]; exact q1 j hj, by rw [jvu_at]; decide, fun k hk => by rw [jvu_ne _ _ _ (by omega), jvu_ne _ _ _ (by omega)]; exact q3 k hk, fun i j hij hj => by rw [jvu_at] at hj; omega⟩ (N1 := jvu N0 78 0) (fun j hj => by
    unfold jvu
    split
    · rfl
    · exact K14.2.1 j hj)
  refine mj_T.pl rfl rfl rfl rfl ?_
  exact mj_T.ret rfl rfl rfl ⟨_, g15, ⟨by omega, by omega⟩, rfl, ⟨S14, _, B14, X, V, hs15, K15⟩⟩
theorem rx_undo  (hI : jIx N0 u0 H tm er T h) : mj_Ok 40 252 [.ref 0] h (fun z => (u0 = 0 ∧ rIx N0 u0 H tm er T z) ∨ (∃ v : Nat, u0 = v + 1 ∧ rIx (H 0) v (fun k => H (k + 1)) tm er T z)) := by
  refine mj_Ok.of (M := mj_m252) rfl rfl rfl ?_
  obtain ⟨S, N, B, X, V, hs, K⟩ := hI
  iterate 2 refine mj_T.pl rfl rfl rfl rfl ?_
  refine rT_put (v := 0) hs rfl rfl (by decide) rfl (fun g16 hs16 => ?_)
  have K16 := K.put (k := 3) (v := 0) ⟨by decide, by decide⟩ (by decide) (by decide) (by decide) (by decide) (by decide)
  generalize jvu S 3 0 = S16 at hs16 K16
  obtain ⟨⟨k1, k2, k3, k4, k5, k6, k7, k8, k9⟩, kn, ku, kh⟩ := K16
  refine mj_T.pl rfl rfl rfl rfl ?_
  refine rT_get hs16 rfl rfl ?_
  refine mj_T.if0 (a := S16 2) rfl ⟨by omega, by omega⟩ (fun hc => ?_) (fun hc => ?_)
  rotate_left
  · refine mj_T.pl rfl rfl rfl rfl ?_
    simp only [jc, Bool.not_eq_false', decide_eq_true_eq] at hc
    exact mj_T.ret rfl rfl rfl (Or.inl ⟨by omega, -1, _, ⟨by decide, by decide⟩, rfl, ⟨_, _, _, _, _, hs16, ⟨⟨k1, k2, k3, k4, k5, k6, k7, k8, k9⟩, kn, ku, kh⟩⟩⟩)
  simp only [jc, Bool.not_eq_true', decide_eq_false_iff_not] at hc
  obtain ⟨c, hc2⟩ : ∃ c : Nat, S16 2 = ((c + 1 : Nat) : Int) := ⟨(S16 2).toNat - 1, by omega⟩
  iterate 2 refine mj_T.pl rfl rfl rfl rfl ?_
  refine rT_get hs16 rfl rfl ?_
  refine mj_T.pl rfl rfl rfl rfl ?_
  refine mj_T.isub (a := S16 2) (b := 1) rfl ?_
  rw [hc2, show ((c + 1 : Nat) : Int) - 1 = (c : Int) by omega]
  refine rT_put (v := (c : Int)) hs16 rfl rfl (by decide) rfl (fun g17 hs17 => ?_)
  have e : ∀ x, x ≠ 2 → jvu S16 2 (c : Int) x = S16 x := fun x hx => jvu_ne _ _ _ hx
  have e2 : jvu S16 2 (c : Int) 2 = (c : Int) := jvu_at _ _ _
  generalize jvu S16 2 (c : Int) = S17 at hs17 e e2
  refine mj_T.pl rfl rfl rfl rfl ?_
  refine rT_get hs17 rfl rfl ?_
  refine mj_T.pl rfl rfl rfl rfl ?_
  refine rT_get (v := .int (jn (c : Int))) hs17 rfl (by rw [← e2]; rfl) ?_
  refine mj_T.pl rfl rfl rfl rfl ?_
  refine mj_T.imul (a := (c : Int)) (b := 91) rfl ?_
  rw [show (c : Int) * 91 = ((c * 91 : Nat) : Int) by omega]
  refine mj_T.pl rfl rfl rfl rfl ?_
  refine rT_get hs17 rfl rfl ?_
  iterate 2 refine mj_T.pl rfl rfl rfl rfl ?_
  refine rT_cpy (s := c * 91) (d := 0) (m := 91) (f := B) (g := N) rfl rfl (rS_B hs17) (rS_N hs17) (by omega) (by decide) ⟨by omega, by decide, by decide⟩ (Nat.le_of_ble_eq_true rfl) ?_
  have hs18 := rS_setN (va_cpy B N (c * 91) 0 91) hs17
  generalize g17.set 1 _ = g18 at hs18
  refine mj_T.pl rfl rfl rfl rfl ?_
  refine rT_get (v := .int (jn (c : Int))) hs18 rfl (by rw [← e2]; rfl) ?_
  refine mj_T.ret rfl rfl rfl (Or.inr ⟨c, by omega, (c : Int), _, ⟨by omega, by omega⟩, rfl, ⟨_, _, _, _, _, hs18, ⟨⟨?_, by omega, fun k hk => k3 k (by omega), by rw [e 9 (by decide)]; exact k4, by rw [e 12 (by decide)]; exact k5, by rw [e 15 (by decide)]; exact k6, fun x => ?_, by rw [e 13 (by decide)]; exact k8, k9⟩, fun j hj => ?_, e2, fun k hk j hj => ?_⟩⟩⟩)
  · refine gN_congr (fun j hj => ?_) (k3 c (by omega))
    show va_cpy B N (c * 91) 0 91 j = B (c * 91 + j)
    unfold va_cpy
    rw [if_pos (by omega), show c * 91 + (j - 0) = c * 91 + j by omega]
  · by_cases q : x = 2
    · subst q
      rw [e2]
      exact ⟨by omega, by omega⟩
    · rw [e x q]
      exact k7 x
  · have y := kh 0 (by omega) j hj
    show va_cpy B N (c * 91) 0 91 j = H 0 j
    unfold va_cpy
    rw [if_pos (by omega), ← y, show c * 91 + (j - 0) = (u0 - 1 - 0) * 91 + j by rw [show u0 - 1 - 0 = c by omega]; omega]
  · have y := kh (k + 1) (by omega) j hj
    rw [show u0 - 1 - (k + 1) = c - 1 - k by omega] at y
    exact y
end RPZ
/-! The reference, exactly: derive, setTerm. -/
section RPW
variable {h : mj_H} {tm er : Int} {T : Nat → Int} {N0 : Nat → Int} {u0 : Nat} {H : Nat → Nat → Int}
theorem rwN_at {N N0 : Nat → Int} (hn : ∀ j, j < 91 → N j = N0 j) {r e : Nat} (hr : r ≤ 5) (he : e < 13) : N (r * 13 + e) = rwN N0 (r : Int) e := by
  show _ = if e < 13 then N0 ((r : Int).toNat * 13 + e) else 0
  rw [if_pos he, Int.toNat_natCast]
  exact hn _ (by omega)
theorem rx_derive {x y : Int} (hx : jr x) (hy : jr y) (hI : jIx N0 u0 H tm er T h) : mj_Ok 40 235 [.ref 0, .int (jn x), .int (jn y)] h (RR tm er T N0 u0 H ((0 ≤ x ∧ x ≤ 5) ∧ (0 ≤ y ∧ y ≤ 5)) (fun w => ∀ j, j < 13 → w j = drN N0 y j) x) := by
  refine mj_Ok.of (M := mj_m235) rfl rfl rfl ?_
  obtain ⟨S, N, B, X, V, hs, K⟩ := hI
  iterate 2 refine mj_T.pl rfl rfl rfl rfl ?_
  refine rT_put (v := 0) hs rfl rfl (by decide) rfl (fun g14 hs14 => ?_)
  have K14 := K.put (k := 3) (v := 0) ⟨by decide, by decide⟩ (by decide) (by decide) (by decide) (by decide) (by decide)
  generalize jvu S 3 0 = S14 at hs14 K14
  iterate 3 refine mj_T.pl rfl rfl rfl rfl ?_
  refine mj_T.call (ins := .invokestatic 210) rfl rfl (Nat.le_of_ble_eq_true rfl) (Nat.le_of_ble_eq_true rfl) rfl rfl (mj_Ok.up (by decide) (rx_areRegisters (D := 0) hx hy hy)) (fun v' h' hq' => ?_) (fun i h' hq' => by rcases hq' with ⟨_, _, h⟩ | ⟨_, h⟩ <;> cases h)
  rcases hq' with ⟨⟨x1, x2⟩, ⟨y3, y4, y5, y6⟩, hq'⟩ | ⟨hno, hq'⟩
  case' inr =>
    cases hq'
    refine mj_T.if0 (a := 0) rfl ⟨by decide, by decide⟩ (fun hc => ?_) (fun hc => ?_)
    · simp [jc] at hc
    iterate 2 refine mj_T.pl rfl rfl rfl rfl ?_
    refine mj_T.call (ins := .invokevirtual 198) rfl rfl (Nat.le_of_ble_eq_true rfl) (Nat.le_of_ble_eq_true rfl) (by simp [mj_recv, rS_f hs14]) rfl (mj_Ok.up (by decide) (rp_fails (D := 0) (c := 1) hs14)) (fun v' g15 hq' => ?_) (fun i h' hq' => by obtain ⟨_, _, h⟩ := hq'; cases h)
    obtain ⟨_, hs15, hq'⟩ := hq'
    cases hq'
    exact mj_T.ret rfl rfl rfl (Or.inr ⟨fun q => hno ⟨q.1, q.2, q.2⟩, 0, g15, ⟨by decide, by decide⟩, rfl, ⟨_, N, B, X, V, hs15, K14.put ⟨by decide, by decide⟩ (by decide) (by decide) (by decide) (by decide) (by decide)⟩⟩)
  cases hq'
  refine mj_T.if0 (a := 1) rfl ⟨by decide, by decide⟩ (fun hc => ?_) (fun hc => ?_)
  rotate_left
  · simp [jc] at hc
  obtain ⟨x, rfl⟩ := Int.eq_ofNat_of_zero_le x1
  obtain ⟨y, rfl⟩ := Int.eq_ofNat_of_zero_le y3
  iterate 3 refine mj_T.pl rfl rfl rfl rfl ?_
  refine mj_T.call (ins := .invokevirtual 213) rfl rfl (Nat.le_of_ble_eq_true rfl) (Nat.le_of_ble_eq_true rfl) (by simp [mj_recv, rS_f hs14]) rfl (mj_Ok.up (by decide) (rp_loads (D := 0) (p := 0) (r := y) (by decide) (by omega) K14.nR hs14)) (fun v' g16 hq' => ?_) (fun i h' hq' => by obtain ⟨_, _, h⟩ := hq'; cases h)
  obtain ⟨_, hs16, hq'⟩ := hq'
  cases hq'
  have a16 : ∀ e, e < 13 → jfl V 0 (fun e => N (y * 13 + e)) 13 (0 * 13 + e) = N (y * 13 + e) := fun e he => jfl_at _ _ _ he
  have b16 : ∀ s, (s < 0 * 13 ∨ 0 * 13 + 13 ≤ s) → jfl V 0 (fun e => N (y * 13 + e)) 13 s = V s := fun s hc => jfl_off _ _ _ hc
  generalize jfl V 0 (fun e => N (y * 13 + e)) 13 = W16 at hs16 a16 b16
  have c1 : ∀ e, e < 13 → (W16 (0 * 13 + e)).natAbs ≤ 10 ^ 18 := fun e he => by
    rw [a16 e he]
    exact K14.sh (r := y) (by omega) he
  iterate 3 refine mj_T.pl rfl rfl rfl rfl ?_
  refine mj_T.call (ins := .invokevirtual 149) rfl rfl (Nat.le_of_ble_eq_true rfl) (Nat.le_of_ble_eq_true rfl) (by simp [mj_recv, rS_f hs16]) rfl (mj_Ok.up (by decide) (jp_derives (D := 0) (V := W16) (rG S14 N B T X) (p := 1) (a := 0) (by decide) (by decide) (by decide) (fun e he => jnl_of_lt (M := 10 ^ 18 * 13) (by rw [Int.natAbs_mul]; exact Nat.mul_le_mul (c1 (e + 1) (by omega)) (by omega)) kq_small) hs16)) (fun v' g17 hq' => ?_) (fun i h' hq' => by obtain ⟨_, _, _, _, h⟩ := hq'; cases h)
  obtain ⟨W17, _, hs17, hW, hq'⟩ := hq'
  cases hq'
  iterate 4 refine mj_T.pl rfl rfl rfl rfl ?_
  refine mj_T.call (ins := .invokevirtual 219) rfl rfl (Nat.le_of_ble_eq_true rfl) (Nat.le_of_ble_eq_true rfl) (by simp [mj_recv, rS_f hs17]) rfl (mj_Ok.up (by decide) (rx_puts (D := 0) (r := x) (p := 1) (c := 2) (by omega) (by decide) ⟨by decide, by decide⟩ K14 hs17)) (fun v' h' hq' => ?_) (fun i h' hq' => by rcases hq' with ⟨_, _, _, _, h, _⟩ | ⟨_, _, _, _, h, _⟩ <;> cases h)
  have hres : ∀ j, j < 13 → (fun e => W17 (1 * 13 + e)) j = drN N0 (y : Int) j := fun j hj => by
    show W17 (1 * 13 + j) = if j < 12 then rwN N0 (y : Int) (j + 1) * ((j + 1 : Nat) : Int) else 0
    rw [hW _ (by omega), jfl_at _ _ _ hj]
    by_cases q : j < 12
    · rw [if_pos q, if_pos q]
      show W16 (0 * 13 + j + 1) * ((j + 1 : Nat) : Int) = _
      rw [show 0 * 13 + j + 1 = 0 * 13 + (j + 1) by omega, a16 (j + 1) (by omega), rwN_at K14.2.1 (by omega) (by omega)]
    · rw [if_neg q, if_neg q]
  rcases hq' with ⟨hs9, z9, h9, hz9, e9, hI9⟩ | ⟨hs9, z9, h9, hz9, e9, hI9⟩
  · cases e9
    exact mj_T.ret rfl rfl rfl (Or.inl ⟨⟨⟨by omega, by omega⟩, ⟨by omega, by omega⟩⟩, _, hres, Or.inl ⟨hs9, z9, _, hz9, rfl, hI9⟩⟩)
  · cases e9
    exact mj_T.ret rfl rfl rfl (Or.inl ⟨⟨⟨by omega, by omega⟩, ⟨by omega, by omega⟩⟩, _, hres, Or.inr ⟨hs9, z9, _, hz9, rfl, hI9⟩⟩)
theorem rx_setTerm {x y : Int} (hx : jr x) (hy : jr y) {z : Int} (hz : jR z) (hI : jIx N0 u0 H tm er T h) : mj_Ok 40 244 [.ref 0, .int (jn x), .int (jn y), .long (jl z)] h (fun r => (((0 ≤ x ∧ x ≤ 5) ∧ (0 ≤ y ∧ y ≤ 12) ∧ (-999999999999999999 ≤ z ∧ z ≤ 999999999999999999)) ∧ rIx (jvu N0 (x.toNat * 13 + y.toNat) z) (upu u0) (pushH N0 H) tm er T r) ∨ (¬ ((0 ≤ x ∧ x ≤ 5) ∧ (0 ≤ y ∧ y ≤ 12) ∧ (-999999999999999999 ≤ z ∧ z ≤ 999999999999999999)) ∧ rIx N0 u0 H tm er T r)) := by
  refine mj_Ok.of (M := mj_m244) rfl rfl rfl ?_
  obtain ⟨S, N, B, X, V, hs, K⟩ := hI
  iterate 2 refine mj_T.pl rfl rfl rfl rfl ?_
  refine rT_put (v := 0) hs rfl rfl (by decide) rfl (fun g5 hs5 => ?_)
  have K5 := K.put (k := 3) (v := 0) ⟨by decide, by decide⟩ (by decide) (by decide) (by decide) (by decide) (by decide)
  generalize jvu S 3 0 = S5 at hs5 K5
  refine mj_T.pl rfl rfl rfl rfl ?_
  refine mj_T.call (ins := .invokestatic 181) rfl rfl (Nat.le_of_ble_eq_true rfl) (Nat.le_of_ble_eq_true rfl) rfl rfl (mj_Ok.up (by decide) (rp_isRegister (D := 0) hx)) (fun v' h' hq' => ?_) (fun i h' hq' => by rcases hq' with ⟨_, _, h⟩ | ⟨_, h⟩ <;> cases h)
  rcases hq' with ⟨x1, x2, hq'⟩ | ⟨cn, hq'⟩
  case' inr =>
    cases hq'
    refine mj_T.if0 (a := 0) rfl ⟨by decide, by decide⟩ (fun hc => ?_) (fun hc => ?_)
    · simp [jc] at hc
    iterate 2 refine mj_T.pl rfl rfl rfl rfl ?_
    refine mj_T.call (ins := .invokevirtual 198) rfl rfl (Nat.le_of_ble_eq_true rfl) (Nat.le_of_ble_eq_true rfl) (by simp [mj_recv, rS_f hs5]) rfl (mj_Ok.up (by decide) (rp_fails (D := 0) (c := 1) hs5)) (fun v' g6 hq' => ?_) (fun i h' hq' => by obtain ⟨_, _, h⟩ := hq'; cases h)
    obtain ⟨_, hs6, hq'⟩ := hq'
    cases hq'
    exact mj_T.ret rfl rfl rfl (Or.inr ⟨by omega, 0, g6, ⟨by decide, by decide⟩, rfl, ⟨_, N, B, X, V, hs6, K5.put ⟨by decide, by decide⟩ (by decide) (by decide) (by decide) (by decide) (by decide)⟩⟩)
  cases hq'
  refine mj_T.if0 (a := 1) rfl ⟨by decide, by decide⟩ (fun hc => ?_) (fun hc => ?_)
  rotate_left
  · simp [jc] at hc
  obtain ⟨x, rfl⟩ := Int.eq_ofNat_of_zero_le x1
  refine mj_T.pl rfl rfl rfl rfl ?_
  refine mj_T.i2l rfl hy ?_
  iterate 2 refine mj_T.pl rfl rfl rfl rfl ?_
  refine mj_T.call (ins := .invokestatic 177) rfl rfl (Nat.le_of_ble_eq_true rfl) (Nat.le_of_ble_eq_true rfl) rfl rfl (mj_Ok.up (by decide) (rp_in (D := 0) (v := y) (lo := 0) (hi := 12) ⟨by have := hy.1; omega, by have := hy.2; omega⟩ ⟨by decide, by decide⟩ ⟨by decide, by decide⟩)) (fun v' h' hq' => ?_) (fun i h' hq' => by rcases hq' with ⟨_, _, h⟩ | ⟨_, h⟩ <;> cases h)
  rcases hq' with ⟨r7a, r7b, hq'⟩ | ⟨cn, hq'⟩
  case' inr =>
    cases hq'
    refine mj_T.if0 (a := 0) rfl ⟨by decide, by decide⟩ (fun hc => ?_) (fun hc => ?_)
    · simp [jc] at hc
    iterate 2 refine mj_T.pl rfl rfl rfl rfl ?_
    refine mj_T.call (ins := .invokevirtual 198) rfl rfl (Nat.le_of_ble_eq_true rfl) (Nat.le_of_ble_eq_true rfl) (by simp [mj_recv, rS_f hs5]) rfl (mj_Ok.up (by decide) (rp_fails (D := 0) (c := 2) hs5)) (fun v' g8 hq' => ?_) (fun i h' hq' => by obtain ⟨_, _, h⟩ := hq'; cases h)
    obtain ⟨_, hs8, hq'⟩ := hq'
    cases hq'
    exact mj_T.ret rfl rfl rfl (Or.inr ⟨by omega, 0, g8, ⟨by decide, by decide⟩, rfl, ⟨_, N, B, X, V, hs8, K5.put ⟨by decide, by decide⟩ (by decide) (by decide) (by decide) (by decide) (by decide)⟩⟩)
  cases hq'
  refine mj_T.if0 (a := 1) rfl ⟨by decide, by decide⟩ (fun hc => ?_) (fun hc => ?_)
  rotate_left
  · simp [jc] at hc
  obtain ⟨y, rfl⟩ := Int.eq_ofNat_of_zero_le r7a
  refine mj_T.pl rfl rfl rfl rfl ?_
  iterate 2 refine mj_T.pl rfl rfl rfl rfl ?_
  refine mj_T.call (ins := .invokestatic 177) rfl rfl (Nat.le_of_ble_eq_true rfl) (Nat.le_of_ble_eq_true rfl) rfl rfl (mj_Ok.up (by decide) (rp_in (D := 0) (v := z) (lo := -999999999999999999) (hi := 999999999999999999) hz ⟨by decide, by decide⟩ ⟨by decide, by decide⟩)) (fun v' h' hq' => ?_) (fun i h' hq' => by rcases hq' with ⟨_, _, h⟩ | ⟨_, h⟩ <;> cases h)
  rcases hq' with ⟨r9a, r9b, hq'⟩ | ⟨cn, hq'⟩
  case' inr =>
    cases hq'
    refine mj_T.if0 (a := 0) rfl ⟨by decide, by decide⟩ (fun hc => ?_) (fun hc => ?_)
    · simp [jc] at hc
    iterate 2 refine mj_T.pl rfl rfl rfl rfl ?_
    refine mj_T.call (ins := .invokevirtual 198) rfl rfl (Nat.le_of_ble_eq_true rfl) (Nat.le_of_ble_eq_true rfl) (by simp [mj_recv, rS_f hs5]) rfl (mj_Ok.up (by decide) (rp_fails (D := 0) (c := 3) hs5)) (fun v' g10 hq' => ?_) (fun i h' hq' => by obtain ⟨_, _, h⟩ := hq'; cases h)
    obtain ⟨_, hs10, hq'⟩ := hq'
    cases hq'
    exact mj_T.ret rfl rfl rfl (Or.inr ⟨by omega, 0, g10, ⟨by decide, by decide⟩, rfl, ⟨_, N, B, X, V, hs10, K5.put ⟨by decide, by decide⟩ (by decide) (by decide) (by decide) (by decide) (by decide)⟩⟩)
  cases hq'
  refine mj_T.if0 (a := 1) rfl ⟨by decide, by decide⟩ (fun hc => ?_) (fun hc => ?_)
  rotate_left
  · simp [jc] at hc
  refine mj_T.pl rfl rfl rfl rfl ?_
  refine mj_T.call (ins := .invokevirtual 201) rfl rfl (Nat.le_of_ble_eq_true rfl) (Nat.le_of_ble_eq_true rfl) (by simp [mj_recv, rS_f hs5]) rfl (mj_Ok.up (by decide) (rx_keeps (D := 0) K5 hs5)) (fun v' g11 hq' => ?_) (fun i h' hq' => by obtain ⟨_, _, _, _, _, _, h⟩ := hq'; cases h)
  obtain ⟨S11, B11, _, hs11, K11, _, hq'⟩ := hq'
  cases hq'
  refine mj_T.pl rfl rfl rfl rfl ?_
  refine rT_get hs11 rfl rfl ?_
  iterate 2 refine mj_T.pl rfl rfl rfl rfl ?_
  refine mj_T.imul (a := (x : Int)) (b := 13) rfl ?_
  refine mj_T.pl rfl rfl rfl rfl ?_
  refine mj_T.iadd rfl ?_
  rw [show (x : Int) * 13 + (y : Int) = ((x * 13 + y : Nat) : Int) by omega]
  refine mj_T.pl rfl rfl rfl rfl ?_
  refine rT_stN hs11 rfl ⟨by omega, by omega⟩ (fun g12 hs12 => ?_)
  rw [Int.toNat_natCast] at hs12
  have K12 := K11.row (gN_put (j := x * 13 + y) (z := z) K11.1.1 (by omega) ⟨by omega, by omega⟩) (N1 := jvu N0 (x * 13 + y) z) (fun j hj => by
    unfold jvu
    split
    · rfl
    · exact K11.2.1 j hj)
  generalize jvu N (x * 13 + y) z = N12 at hs12 K12
  have hd := jdg_le N12 x 13
  iterate 2 refine mj_T.pl rfl rfl rfl rfl ?_
  refine mj_T.call (ins := .invokevirtual 185) rfl rfl (Nat.le_of_ble_eq_true rfl) (Nat.le_of_ble_eq_true rfl) (by simp [mj_recv, rS_f hs12]) rfl (mj_Ok.up (by decide) (rp_degreeIn (D := 0) (r := x) (by omega) K12.nR hs12)) (fun v' h' hq' => ?_) (fun i h' hq' => by cases hq')
  cases hq'
  exact mj_T.ret rfl rfl rfl (Or.inl ⟨⟨⟨by omega, by omega⟩, ⟨by omega, by omega⟩, ⟨by omega, by omega⟩⟩, _, g12, ⟨by omega, by omega⟩, rfl, ⟨S11, N12, B11, X, V, hs12, K12⟩⟩)
end RPW
/-! The reference, exactly: addPoint. -/
section RPA
variable {h : mj_H} {tm er : Int} {T : Nat → Int} {N0 : Nat → Int} {u0 : Nat} {H : Nat → Nat → Int}
/-- a point may be added -/
def okPt (N : Nat → Int) (x y : Int) : Prop := ((-9 ≤ x ∧ x ≤ 9) ∧ (-999 ≤ y ∧ y ≤ 999)) ∧ N 78 ≠ 6 ∧ ∀ j : Nat, (j : Int) < N 78 → N (79 + j) ≠ x
/-- a point is added, or nothing changes -/
def adR (N0 : Nat → Int) (u0 : Nat) (H : Nat → Nat → Int) (tm er : Int) (T : Nat → Int) (x y : Int) (r : mj_R) : Prop := (okPt N0 x y ∧ rIx (adN N0 x y) (upu u0) (pushH N0 H) tm er T r) ∨ (¬ okPt N0 x y ∧ rIx N0 u0 H tm er T r)
theorem rx_pt_loop {S N B X V : Nat → Int} {x y : Int} (hx : -9 ≤ x ∧ x ≤ 9) (hy : -999 ≤ y ∧ y ≤ 999) {n : Nat} (hn : N 78 = (n : Int)) (hn6 : n ≤ 6) (hs : rS S N B T X V h) (K : jKx N0 u0 H tm er S N B T) :
    ∀ (m k : Nat) (b : Int), k + m = n → (b = 0 ∨ b = 1) → (b = 0 → n ≠ 6 ∧ ∀ j, j < k → N (79 + j) ≠ x) → (b = 1 → n = 6 ∨ ∃ j, j < n ∧ N (79 + j) = x) → mj_T 39 mj_m246 62 [some (.ref 0), some (.int (jn x)), some (.int (jn y)), some (.int (jn b)), some (.int (jn (k : Int)))] [] h (adR N0 u0 H tm er T x y) := by
  intro m
  induction m with
  | zero =>
    intro k b hk hb hinv hful
    have hk : k = n := by omega
    subst hk
    refine mj_T.pl rfl rfl rfl rfl ?_
    refine mj_T.i2l rfl ⟨by omega, by omega⟩ ?_
    refine mj_T.pl rfl rfl rfl rfl ?_
    refine rT_get hs rfl rfl ?_
    refine mj_T.pl rfl rfl rfl rfl ?_
    refine rT_ldN (i := ((78 : Nat) : Int)) hs rfl ⟨by decide, by decide⟩ ?_
    rw [Int.toNat_natCast, hn]
    refine mj_T.lif (a := (k : Int)) (b := (k : Int)) rfl rfl ⟨by omega, by omega⟩ ⟨by omega, by omega⟩ (fun hc => ?_) (fun hc => ?_)
    · refine mj_T.pl rfl rfl rfl rfl ?_
      refine mj_T.if0 (a := b) rfl ⟨by omega, by omega⟩ (fun hc2 => ?_) (fun hc2 => ?_)
      · simp only [jc, decide_eq_true_eq] at hc2
        obtain ⟨i1, i2⟩ := hinv hc2
        refine mj_T.pl rfl rfl rfl rfl ?_
        refine mj_T.call (ins := .invokevirtual 201) rfl rfl (Nat.le_of_ble_eq_true rfl) (Nat.le_of_ble_eq_true rfl) (by simp [mj_recv, rS_f hs]) rfl (mj_Ok.up (by decide) (rx_keeps (D := 0) K hs)) (fun v' g1 hq' => ?_) (fun i h' hq' => by obtain ⟨_, _, _, _, _, _, h⟩ := hq'; cases h)
        obtain ⟨S1, B1, _, hs1, K1, _, hq'⟩ := hq'
        cases hq'
        refine mj_T.pl rfl rfl rfl rfl ?_
        refine rT_get hs1 rfl rfl ?_
        iterate 2 refine mj_T.pl rfl rfl rfl rfl ?_
        refine rT_get hs1 rfl rfl ?_
        refine mj_T.pl rfl rfl rfl rfl ?_
        refine rT_ldN (i := ((78 : Nat) : Int)) hs1 rfl ⟨by decide, by decide⟩ ?_
        rw [Int.toNat_natCast, hn]
        refine mj_T.l2i rfl ?_
        refine mj_T.iadd (a := 79) (b := (k : Int)) rfl ?_
        rw [show (79 : Int) + (k : Int) = ((79 + k : Nat) : Int) by omega]
        refine mj_T.pl rfl rfl rfl rfl ?_
        refine mj_T.i2l rfl ⟨by omega, by omega⟩ ?_
        refine rT_stN (z := x) hs1 rfl ⟨by omega, by omega⟩ (fun g2 hs2 => ?_)
        rw [Int.toNat_natCast] at hs2
        refine mj_T.pl rfl rfl rfl rfl ?_
        refine rT_get hs2 rfl rfl ?_
        iterate 2 refine mj_T.pl rfl rfl rfl rfl ?_
        refine rT_get hs2 rfl rfl ?_
        refine mj_T.pl rfl rfl rfl rfl ?_
        refine rT_ldN (i := ((78 : Nat) : Int)) hs2 rfl ⟨by decide, by decide⟩ ?_
        rw [Int.toNat_natCast, jvu_ne _ _ _ (by omega), hn]
        refine mj_T.l2i rfl ?_
        refine mj_T.iadd (a := 85) (b := (k : Int)) rfl ?_
        rw [show (85 : Int) + (k : Int) = ((85 + k : Nat) : Int) by omega]
        refine mj_T.pl rfl rfl rfl rfl ?_
        refine mj_T.i2l rfl ⟨by omega, by omega⟩ ?_
        refine rT_stN (z := y) hs2 rfl ⟨by omega, by omega⟩ (fun g3 hs3 => ?_)
        rw [Int.toNat_natCast] at hs3
        refine mj_T.pl rfl rfl rfl rfl ?_
        refine rT_get hs3 rfl rfl ?_
        iterate 2 refine mj_T.pl rfl rfl rfl rfl ?_
        refine rT_ldN (i := ((78 : Nat) : Int)) hs3 rfl ⟨by decide, by decide⟩ ?_
        rw [Int.toNat_natCast, jvu_ne _ _ _ (by omega), jvu_ne _ _ _ (by omega), hn]
        refine mj_T.pl rfl rfl rfl rfl ?_
        refine mj_T.ladd (a := (k : Int)) (b := 1) rfl ?_
        rw [show (k : Int) + 1 = ((k + 1 : Nat) : Int) by omega]
        refine rT_stN (i := ((78 : Nat) : Int)) (z := ((k + 1 : Nat) : Int)) hs3 rfl ⟨by decide, by decide⟩ (fun g4 hs4 => ?_)
        rw [Int.toNat_natCast] at hs4
        have n78 : N0 78 = (k : Int) := (K.2.1 78 (by decide)).symm.trans hn
        have ead : ∀ j, j < 91 → jvu (jvu (jvu N (79 + k) x) (85 + k) y) 78 ((k + 1 : Nat) : Int) j = adN N0 x y j := fun j hj => by
          unfold adN
          rw [show (N0 78).toNat = k by omega]
          unfold jvu
          split
          · rfl
          · split
            · rfl
            · split
              · rfl
              · exact K.2.1 j hj
        have hok : okPt N0 x y := ⟨⟨hx, hy⟩, by omega, fun j hj => by
          rw [← K.2.1 (79 + j) (by omega)]
          exact i2 j (by omega)⟩
        have K4 := K1.row (N1 := adN N0 x y) (gN_point (n := k) K.1.1 hn (by omega) hx hy i2) ead
        refine mj_T.pl rfl rfl rfl rfl ?_
        refine rT_get hs4 rfl rfl ?_
        refine mj_T.pl rfl rfl rfl rfl ?_
        refine rT_ldN (i := ((78 : Nat) : Int)) hs4 rfl ⟨by decide, by decide⟩ ?_
        rw [Int.toNat_natCast, jvu_at]
        refine mj_T.l2i rfl ?_
        exact mj_T.ret rfl rfl rfl (Or.inl ⟨hok, _, g4, ⟨by omega, by omega⟩, rfl, ⟨S1, _, B1, X, V, hs4, K4⟩⟩)
      · have hno : ¬ okPt N0 x y := fun q => by
          have n78 : N0 78 = (k : Int) := (K.2.1 78 (by decide)).symm.trans hn
          have hb1 : b = 1 := by
            simp only [jc, decide_eq_false_iff_not] at hc2
            exact hb.resolve_left hc2
          rcases hful hb1 with e | ⟨j, hj, e⟩
          · exact q.2.1 (by omega)
          · exact q.2.2 j (by omega) ((K.2.1 (79 + j) (by omega)).symm.trans e)
        iterate 2 refine mj_T.pl rfl rfl rfl rfl ?_
        refine mj_T.call (ins := .invokevirtual 198) rfl rfl (Nat.le_of_ble_eq_true rfl) (Nat.le_of_ble_eq_true rfl) (by simp [mj_recv, rS_f hs]) rfl (mj_Ok.up (by decide) (rp_fails (D := 0) (c := 2) hs)) (fun v' g5 hq' => ?_) (fun i h' hq' => by obtain ⟨_, _, h⟩ := hq'; cases h)
        obtain ⟨_, hs5, hq'⟩ := hq'
        cases hq'
        exact mj_T.ret rfl rfl rfl (Or.inr ⟨hno, 0, g5, ⟨by decide, by decide⟩, rfl, ⟨_, N, B, X, V, hs5, K.put ⟨by decide, by decide⟩ (by decide) (by decide) (by decide) (by decide) (by decide)⟩⟩)
    · simp only [jc, decide_eq_false_iff_not] at hc
      omega
  | succ m ih =>
    intro k b hk hb hinv hful
    refine mj_T.pl rfl rfl rfl rfl ?_
    refine mj_T.i2l rfl ⟨by omega, by omega⟩ ?_
    refine mj_T.pl rfl rfl rfl rfl ?_
    refine rT_get hs rfl rfl ?_
    refine mj_T.pl rfl rfl rfl rfl ?_
    refine rT_ldN (i := ((78 : Nat) : Int)) hs rfl ⟨by decide, by decide⟩ ?_
    rw [Int.toNat_natCast, hn]
    refine mj_T.lif (a := (k : Int)) (b := (n : Int)) rfl rfl ⟨by omega, by omega⟩ ⟨by omega, by omega⟩ (fun hc => ?_) (fun hc => ?_)
    · simp only [jc, decide_eq_true_eq] at hc
      omega
    have t101 : ∀ b2 : Int, (b2 = 0 ∨ b2 = 1) → (b2 = 0 → n ≠ 6 ∧ ∀ j, j < k + 1 → N (79 + j) ≠ x) → (b2 = 1 → n = 6 ∨ ∃ j, j < n ∧ N (79 + j) = x) → mj_T 39 mj_m246 101 [some (.ref 0), some (.int (jn x)), some (.int (jn y)), some (.int (jn b)), some (.int (jn (k : Int)))] [.int (jn b2)] h (adR N0 u0 H tm er T x y) := fun b2 hb2 hinv2 hful2 => by
      refine mj_T.pl rfl rfl rfl rfl ?_
      refine mj_T.iinc (a := (k : Int)) rfl rfl ?_
      refine mj_T.pl rfl rfl rfl rfl ?_
      exact ih (k + 1) b2 (by omega) hb2 hinv2 hful2
    refine mj_T.pl rfl rfl rfl rfl ?_
    refine mj_T.if0 (a := b) rfl ⟨by omega, by omega⟩ (fun hc2 => ?_) (fun hc2 => ?_)
    · iterate 2 refine mj_T.pl rfl rfl rfl rfl ?_
      exact t101 1 (Or.inr rfl) (fun e => absurd e (by decide)) (fun _ => hful (by simp only [jc, Bool.not_eq_true', decide_eq_false_iff_not] at hc2; exact hb.resolve_left hc2))
    simp only [jc, Bool.not_eq_false', decide_eq_true_eq] at hc2
    obtain ⟨i1, i2⟩ := hinv hc2
    refine mj_T.pl rfl rfl rfl rfl ?_
    refine rT_get hs rfl rfl ?_
    iterate 2 refine mj_T.pl rfl rfl rfl rfl ?_
    refine mj_T.iadd (a := 79) (b := (k : Int)) rfl ?_
    rw [show (79 : Int) + (k : Int) = ((79 + k : Nat) : Int) by omega]
    refine rT_ldN hs rfl ⟨by omega, by omega⟩ ?_
    rw [Int.toNat_natCast]
    refine mj_T.pl rfl rfl rfl rfl ?_
    refine mj_T.i2l rfl ⟨by omega, by omega⟩ ?_
    have hp := (K.1.1.2.2.1 k (by omega)).1
    refine mj_T.lif (a := N (79 + k)) (b := x) rfl rfl ⟨by omega, by omega⟩ ⟨by omega, by omega⟩ (fun hc3 => ?_) (fun hc3 => ?_)
    · simp only [jc, Bool.not_eq_true', decide_eq_false_iff_not] at hc3
      refine mj_T.pl rfl rfl rfl rfl ?_
      refine t101 0 (Or.inl rfl) (fun _ => ⟨i1, fun j hj => ?_⟩) (fun e => absurd e (by decide))
      by_cases q : j = k
      · rw [q]
        exact hc3
      · exact i2 j (by omega)
    · iterate 2 refine mj_T.pl rfl rfl rfl rfl ?_
      exact t101 1 (Or.inr rfl) (fun e => absurd e (by decide)) (fun _ => Or.inr ⟨k, by omega, by simp only [jc, Bool.not_eq_false', decide_eq_true_eq] at hc3; exact hc3⟩)
theorem rx_addPoint {x y : Int} (hx : jr x) (hy : jr y) (hI : jIx N0 u0 H tm er T h) : mj_Ok 40 246 [.ref 0, .int (jn x), .int (jn y)] h (adR N0 u0 H tm er T x y) := by
  refine mj_Ok.of (M := mj_m246) rfl rfl rfl ?_
  obtain ⟨S, N, B, X, V, hs, K⟩ := hI
  iterate 2 refine mj_T.pl rfl rfl rfl rfl ?_
  refine rT_put (v := 0) hs rfl rfl (by decide) rfl (fun g6 hs6 => ?_)
  have K6 := K.put (k := 3) (v := 0) ⟨by decide, by decide⟩ (by decide) (by decide) (by decide) (by decide) (by decide)
  generalize jvu S 3 0 = S6 at hs6 K6
  have t33 : ¬ ((-9 ≤ x ∧ x ≤ 9) ∧ (-999 ≤ y ∧ y ≤ 999)) → mj_T 39 mj_m246 33 [some (.ref 0), some (.int (jn x)), some (.int (jn y)), none, none] [] g6 (adR N0 u0 H tm er T x y) := by
    intro hno
    iterate 2 refine mj_T.pl rfl rfl rfl rfl ?_
    refine mj_T.call (ins := .invokevirtual 198) rfl rfl (Nat.le_of_ble_eq_true rfl) (Nat.le_of_ble_eq_true rfl) (by simp [mj_recv, rS_f hs6]) rfl (mj_Ok.up (by decide) (rp_fails (D := 0) (c := 1) hs6)) (fun v' g7 hq' => ?_) (fun i h' hq' => by obtain ⟨_, _, h⟩ := hq'; cases h)
    obtain ⟨_, hs7, hq'⟩ := hq'
    cases hq'
    exact mj_T.ret rfl rfl rfl (Or.inr ⟨fun q => hno q.1, 0, g7, ⟨by decide, by decide⟩, rfl, ⟨_, N, B, X, V, hs7, K6.put ⟨by decide, by decide⟩ (by decide) (by decide) (by decide) (by decide) (by decide)⟩⟩)
  refine mj_T.pl rfl rfl rfl rfl ?_
  refine mj_T.i2l rfl hx ?_
  iterate 2 refine mj_T.pl rfl rfl rfl rfl ?_
  refine mj_T.call (ins := .invokestatic 177) rfl rfl (Nat.le_of_ble_eq_true rfl) (Nat.le_of_ble_eq_true rfl) rfl rfl (mj_Ok.up (by decide) (rp_in (D := 0) (v := x) (lo := -9) (hi := 9) ⟨by have := hx.1; omega, by have := hx.2; omega⟩ ⟨by decide, by decide⟩ ⟨by decide, by decide⟩)) (fun v' h' hq' => ?_) (fun i h' hq' => by rcases hq' with ⟨_, _, h⟩ | ⟨_, h⟩ <;> cases h)
  rcases hq' with ⟨xa, xb, hq'⟩ | ⟨cn, hq'⟩
  case' inr =>
    cases hq'
    refine mj_T.if0 (a := 0) rfl ⟨by decide, by decide⟩ (fun hc => ?_) (fun hc => ?_)
    · exact t33 (by omega)
    · simp [jc] at hc
  cases hq'
  refine mj_T.if0 (a := 1) rfl ⟨by decide, by decide⟩ (fun hc => ?_) (fun hc => ?_)
  · simp [jc] at hc
  refine mj_T.pl rfl rfl rfl rfl ?_
  refine mj_T.i2l rfl hy ?_
  iterate 2 refine mj_T.pl rfl rfl rfl rfl ?_
  refine mj_T.call (ins := .invokestatic 177) rfl rfl (Nat.le_of_ble_eq_true rfl) (Nat.le_of_ble_eq_true rfl) rfl rfl (mj_Ok.up (by decide) (rp_in (D := 0) (v := y) (lo := -999) (hi := 999) ⟨by have := hy.1; omega, by have := hy.2; omega⟩ ⟨by decide, by decide⟩ ⟨by decide, by decide⟩)) (fun v' h' hq' => ?_) (fun i h' hq' => by rcases hq' with ⟨_, _, h⟩ | ⟨_, h⟩ <;> cases h)
  rcases hq' with ⟨ya, yb, hq'⟩ | ⟨cn, hq'⟩
  case' inr =>
    cases hq'
    refine mj_T.if0 (a := 0) rfl ⟨by decide, by decide⟩ (fun hc => ?_) (fun hc => ?_)
    · simp [jc] at hc
    · exact t33 (by omega)
  cases hq'
  refine mj_T.if0 (a := 1) rfl ⟨by decide, by decide⟩ (fun hc => ?_) (fun hc => ?_)
  rotate_left
  · simp [jc] at hc
  clear t33
  obtain ⟨n, hn⟩ := Int.eq_ofNat_of_zero_le K6.1.1.2.1.1
  have hn6 := K6.1.1.2.1.2
  refine mj_T.pl rfl rfl rfl rfl ?_
  refine rT_get hs6 rfl rfl ?_
  refine mj_T.pl rfl rfl rfl rfl ?_
  refine rT_ldN (i := ((78 : Nat) : Int)) hs6 rfl ⟨by decide, by decide⟩ ?_
  rw [Int.toNat_natCast]
  refine mj_T.pl rfl rfl rfl rfl ?_
  refine mj_T.lif (a := N 78) (b := 6) rfl rfl ⟨by omega, by omega⟩ ⟨by decide, by decide⟩ (fun hc => ?_) (fun hc => ?_)
  · simp only [jc, Bool.not_eq_true', decide_eq_false_iff_not] at hc
    iterate 4 refine mj_T.pl rfl rfl rfl rfl ?_
    exact rx_pt_loop ⟨xa, xb⟩ ⟨ya, yb⟩ hn (by omega) hs6 K6 n 0 0 (by omega) (Or.inl rfl) (fun _ => ⟨by omega, fun j hj => absurd hj (by omega)⟩) (fun e => absurd e (by decide))
  · iterate 5 refine mj_T.pl rfl rfl rfl rfl ?_
    exact rx_pt_loop ⟨xa, xb⟩ ⟨ya, yb⟩ hn (by omega) hs6 K6 n 0 1 (by omega) (Or.inr rfl) (fun e => absurd e (by decide)) (fun _ => Or.inl (by simp only [jc, Bool.not_eq_false', decide_eq_true_eq] at hc; omega))
end RPA
/-! The reference's product of polynomials, exactly. -/
def psm (V : Nat → Int) (a b i : Nat) : Nat → Nat → Int
  | 0, _ => 0
  | m + 1, e => psm V a b i m e + (if i + m = e then V (a * 13 + i) * V (b * 13 + m) else 0)
def prs (V : Nat → Int) (a b : Nat) : Nat → Nat → Int
  | 0, _ => 0
  | m + 1, e => prs V a b m e + psm V a b m (jdg V b 13) e
section JMX
variable {D : Nat} {hp h : mj_H} {q0 q1 q2 q3 : Nat} {fs : List Value} {V : Nat → Int} {a b to : Nat} {Gt : Nat → Int}
theorem jx_mp2 (G : jG hp q0 q1 q2 q3 fs) (hto : to ≤ 49) (ha : a ≤ 49) (hb : b ≤ 49) (hta : to ≠ a) (htb : to ≠ b) {al be : Nat} (hal : ∀ e, e < 13 → (V (a * 13 + e)).natAbs ≤ al) (hbe : ∀ e, e < 13 → (V (b * 13 + e)).natAbs ≤ be) (hdeg : jdg V a 13 = 0 ∨ jdg V b 13 = 0 ∨ jdg V a 13 + jdg V b 13 ≤ 14) (hfit : 169 * (al * be) < jB ^ 698) {i N : Nat} (hi : i < jdg V a 13) {Q : mj_R → Prop}
    (hend : ∀ (W : Nat → Int) (h : mj_H), jS hp q1 q2 q3 W h → (∀ s, (s < to * 13 ∨ to * 13 + 13 ≤ s) → s ≠ 652 → W s = V s) → (∀ e, e < 13 → (W (to * 13 + e)).natAbs ≤ N * (al * be)) → (∀ e, e < 13 → jdg V a 13 + jdg V b 13 ≤ e + 1 → W (to * 13 + e) = 0) → (∀ e, e < 13 → W (to * 13 + e) + prs V a b i e = Gt e) → mj_T (D + 4) mj_m202 80 [some (.ref q0), some (.int (jn (to : Nat))), some (.int (jn (a : Nat))), some (.int (jn (b : Nat))), some (.int (jn (i : Nat))), some (.int (jn (-1)))] [] h Q) (hN : N ≤ 169) :
    ∀ (m n : Nat) (W : Nat → Int) (h : mj_H), m ≤ jdg V b 13 → n + m = N → jS hp q1 q2 q3 W h → (∀ s, (s < to * 13 ∨ to * 13 + 13 ≤ s) → s ≠ 652 → W s = V s) → (∀ e, e < 13 → (W (to * 13 + e)).natAbs ≤ n * (al * be)) → (∀ e, e < 13 → jdg V a 13 + jdg V b 13 ≤ e + 1 → W (to * 13 + e) = 0) → (∀ e, e < 13 → W (to * 13 + e) + psm V a b i m e + prs V a b i e = Gt e) → mj_T (D + 4) mj_m202 24 [some (.ref q0), some (.int (jn (to : Nat))), some (.int (jn (a : Nat))), some (.int (jn (b : Nat))), some (.int (jn (i : Nat))), some (.int (jn ((m : Int) - 1)))] [] h Q := by
  have hal1 := jdg_le V a 13
  have hbl1 := jdg_le V b 13
  intro m
  induction m with
  | zero =>
    intro n W h hm hn hs hf h1 h2 h3
    have hn2 : n = N := by omega
    subst hn2
    refine mj_T.pl rfl rfl rfl rfl ?_
    refine mj_T.if0 (a := ((0 : Nat) : Int) - 1) rfl ⟨by decide, by decide⟩ (fun hc => ?_) (fun hc => ?_)
    · exact hend W h hs hf h1 h2 (fun e he => by
        have y := h3 e he
        rw [show psm V a b i 0 e = 0 from rfl] at y
        omega)
    · simp [jc] at hc
  | succ m ih =>
    intro n W h hm hn hs hf h1 h2 h3
    refine mj_T.pl rfl rfl rfl rfl ?_
    refine mj_T.if0 (a := ((m + 1 : Nat) : Int) - 1) rfl ⟨by omega, by omega⟩ (fun hc => ?_) (fun hc => ?_)
    · simp only [jc, Bool.not_eq_false', decide_eq_true_eq, decide_eq_false_iff_not] at hc
      omega
    rw [show ((m + 1 : Nat) : Int) - 1 = (m : Int) by omega]
    have va : W (a * 13 + i) = V (a * 13 + i) := hf _ (by omega) (by omega)
    have vb : W (b * 13 + m) = V (b * 13 + m) := hf _ (by omega) (by omega)
    have p1 : (V (a * 13 + i) * V (b * 13 + m)).natAbs ≤ al * be := by
      rw [Int.natAbs_mul]
      exact Nat.mul_le_mul (hal i (by omega)) (hbe m (by omega))
    have hcap : ∀ x, x ≤ 169 → x * (al * be) ≤ 169 * (al * be) := fun x hx => Nat.mul_le_mul_right _ hx
    have hcap1 := hcap 1 (by decide)
    rw [Nat.one_mul] at hcap1
    iterate 4 refine mj_T.pl rfl rfl rfl rfl ?_
    refine mj_T.call (ins := .invokestatic 104) rfl rfl (Nat.le_of_ble_eq_true rfl) (Nat.le_of_ble_eq_true rfl) rfl rfl (jq_slot (D := D + 3) (p := a) (i := i)) (fun v' h' hq' => ?_) (fun i h' hq' => by cases hq')
    cases hq'
    iterate 2 refine mj_T.pl rfl rfl rfl rfl ?_
    refine mj_T.call (ins := .invokestatic 104) rfl rfl (Nat.le_of_ble_eq_true rfl) (Nat.le_of_ble_eq_true rfl) rfl rfl (jq_slot (D := D + 3) (p := b) (i := m)) (fun v' h' hq' => ?_) (fun i h' hq' => by cases hq')
    cases hq'
    refine mj_T.call (ins := .invokevirtual 117) rfl rfl (Nat.le_of_ble_eq_true rfl) (Nat.le_of_ble_eq_true rfl) (by simp [mj_recv, jS_a G hs]) rfl (jS_mul (D := D + 2) (V := W) G (to := 652) (a := a * 13 + i) (b := b * 13 + m) (by decide) (by omega) (by omega) (jnl_of_lt (M := 169 * (al * be)) (by rw [va, vb]; omega) hfit) hs) (fun v' w1 hq' => ?_) (fun i h' hq' => by obtain ⟨_, _, h⟩ := hq'; cases h)
    obtain ⟨_, hs1, hq'⟩ := hq'
    cases hq'
    have c1 : jvu W 652 (W (a * 13 + i) * W (b * 13 + m)) 652 = W (a * 13 + i) * W (b * 13 + m) := jvu_at _ _ _
    have c2 : ∀ s, s ≠ 652 → jvu W 652 (W (a * 13 + i) * W (b * 13 + m)) s = W s := fun s hne => jvu_ne _ _ _ hne
    generalize jvu W 652 (W (a * 13 + i) * W (b * 13 + m)) = W1 at hs1 c1 c2
    have v1 : (W1 (to * 13 + (i + m)) + 1 * W1 652).natAbs ≤ (n + 1) * (al * be) := by
      rw [c1, c2 _ (by omega), va, vb]
      have k1 := h1 (i + m) (by omega)
      have k2 := Int.natAbs_add_le (W (to * 13 + (i + m))) (1 * (V (a * 13 + i) * V (b * 13 + m)))
      rw [Int.one_mul] at k2 ⊢
      rw [Nat.succ_mul]
      omega
    iterate 4 refine mj_T.pl rfl rfl rfl rfl ?_
    refine mj_T.iadd (a := (i : Int)) (b := (m : Int)) rfl ?_
    rw [show (i : Int) + (m : Int) = ((i + m : Nat) : Int) by omega]
    refine mj_T.call (ins := .invokestatic 104) rfl rfl (Nat.le_of_ble_eq_true rfl) (Nat.le_of_ble_eq_true rfl) rfl rfl (jq_slot (D := D + 3) (p := to) (i := i + m)) (fun v' h' hq' => ?_) (fun i h' hq' => by cases hq')
    cases hq'
    iterate 3 refine mj_T.pl rfl rfl rfl rfl ?_
    refine mj_T.iadd (a := (i : Int)) (b := (m : Int)) rfl ?_
    rw [show (i : Int) + (m : Int) = ((i + m : Nat) : Int) by omega]
    refine mj_T.call (ins := .invokestatic 104) rfl rfl (Nat.le_of_ble_eq_true rfl) (Nat.le_of_ble_eq_true rfl) rfl rfl (jq_slot (D := D + 3) (p := to) (i := i + m)) (fun v' h' hq' => ?_) (fun i h' hq' => by cases hq')
    cases hq'
    iterate 2 refine mj_T.pl rfl rfl rfl rfl ?_
    refine mj_T.call (ins := .invokevirtual 107) rfl rfl (Nat.le_of_ble_eq_true rfl) (Nat.le_of_ble_eq_true rfl) (by simp [mj_recv, jS_a G hs1]) rfl (jS_adds (D := D) (V := W1) G (to := to * 13 + (i + m)) (a := to * 13 + (i + m)) (b := 652) (f := 1) (by omega) (by omega) (by decide) (Or.inl rfl) (jnl_of_lt (M := 169 * (al * be)) (Nat.le_trans v1 (hcap _ (by omega))) hfit) hs1) (fun v' w2 hq' => ?_) (fun i h' hq' => by obtain ⟨_, _, h⟩ := hq'; cases h)
    obtain ⟨_, hs2, hq'⟩ := hq'
    cases hq'
    have d1 : jvu W1 (to * 13 + (i + m)) (W1 (to * 13 + (i + m)) + 1 * W1 652) (to * 13 + (i + m)) = W1 (to * 13 + (i + m)) + 1 * W1 652 := jvu_at _ _ _
    have d2 : ∀ s, s ≠ (to * 13 + (i + m)) → jvu W1 (to * 13 + (i + m)) (W1 (to * 13 + (i + m)) + 1 * W1 652) s = W1 s := fun s hne => jvu_ne _ _ _ hne
    generalize jvu W1 (to * 13 + (i + m)) (W1 (to * 13 + (i + m)) + 1 * W1 652) = W2 at hs2 d1 d2
    refine mj_T.iinc (a := (m : Int)) rfl rfl ?_
    refine mj_T.pl rfl rfl rfl rfl ?_
    refine ih (n + 1) W2 w2 (by omega) (by omega) hs2 (fun s x1 x2 => by rw [d2 s (by omega), c2 s x2, hf s x1 x2]) (fun e he => ?_) (fun e he hz => ?_) (fun e he => ?_)
    · by_cases hee : e = i + m
      · subst hee
        rw [d1]
        exact v1
      · rw [d2 _ (by omega), c2 _ (by omega)]
        refine Nat.le_trans (h1 e he) (Nat.mul_le_mul_right _ (by omega))
    · rw [d2 _ (by omega), c2 _ (by omega)]
      exact h2 e he hz
    · have y := h3 e he
      rw [show psm V a b i (m + 1) e = psm V a b i m e + (if i + m = e then V (a * 13 + i) * V (b * 13 + m) else 0) from rfl] at y
      by_cases hee : e = i + m
      · subst hee
        rw [if_pos rfl] at y
        rw [d1, c1, c2 _ (by omega), va, vb]
        omega
      · rw [if_neg (by omega)] at y
        rw [d2 _ (by omega), c2 _ (by omega)]
        omega
theorem jx_mp1 (G : jG hp q0 q1 q2 q3 fs) (hto : to ≤ 49) (ha : a ≤ 49) (hb : b ≤ 49) (hta : to ≠ a) (htb : to ≠ b) {al be : Nat} (hal : ∀ e, e < 13 → (V (a * 13 + e)).natAbs ≤ al) (hbe : ∀ e, e < 13 → (V (b * 13 + e)).natAbs ≤ be) (hdeg : jdg V a 13 = 0 ∨ jdg V b 13 = 0 ∨ jdg V a 13 + jdg V b 13 ≤ 14) (hfit : 169 * (al * be) < jB ^ 698) {Q : mj_R → Prop}
    (hend : ∀ (W : Nat → Int) (h : mj_H), jS hp q1 q2 q3 W h → (∀ s, (s < to * 13 ∨ to * 13 + 13 ≤ s) → s ≠ 652 → W s = V s) → (∀ e, e < 13 → (W (to * 13 + e)).natAbs ≤ 169 * (al * be)) → (∀ e, e < 13 → jdg V a 13 + jdg V b 13 ≤ e + 1 → W (to * 13 + e) = 0) → (∀ e, e < 13 → W (to * 13 + e) = Gt e) → Q (.inl none, h)) :
    ∀ (m n : Nat) (W : Nat → Int) (h : mj_H) (e5 : Option Value), m ≤ jdg V a 13 → n + 13 * m ≤ 169 → jS hp q1 q2 q3 W h → (∀ s, (s < to * 13 ∨ to * 13 + 13 ≤ s) → s ≠ 652 → W s = V s) → (∀ e, e < 13 → (W (to * 13 + e)).natAbs ≤ n * (al * be)) → (∀ e, e < 13 → jdg V a 13 + jdg V b 13 ≤ e + 1 → W (to * 13 + e) = 0) → (∀ e, e < 13 → W (to * 13 + e) + prs V a b m e = Gt e) → mj_T (D + 4) mj_m202 12 [some (.ref q0), some (.int (jn (to : Nat))), some (.int (jn (a : Nat))), some (.int (jn (b : Nat))), some (.int (jn ((m : Int) - 1))), e5] [] h Q := by
  have hal1 := jdg_le V a 13
  have hbl1 := jdg_le V b 13
  intro m
  induction m with
  | zero =>
    intro n W h e5 hm hn hs hf h1 h2 h3
    refine mj_T.pl rfl rfl rfl rfl ?_
    refine mj_T.if0 (a := ((0 : Nat) : Int) - 1) rfl ⟨by decide, by decide⟩ (fun hc => ?_) (fun hc => ?_)
    · exact mj_T.ret rfl rfl rfl (hend W h hs hf (fun e he => Nat.le_trans (h1 e he) (Nat.mul_le_mul_right _ (by omega))) h2 (fun e he => by
        have y := h3 e he
        rw [show prs V a b 0 e = 0 from rfl] at y
        omega))
    · simp [jc] at hc
  | succ m ih =>
    intro n W h e5 hm hn hs hf h1 h2 h3
    refine mj_T.pl rfl rfl rfl rfl ?_
    refine mj_T.if0 (a := ((m + 1 : Nat) : Int) - 1) rfl ⟨by omega, by omega⟩ (fun hc => ?_) (fun hc => ?_)
    · simp only [jc, Bool.not_eq_false', decide_eq_true_eq, decide_eq_false_iff_not] at hc
      omega
    rw [show ((m + 1 : Nat) : Int) - 1 = (m : Int) by omega]
    have hjb : jdg W b 13 = jdg V b 13 := jdg_congr 13 fun e he => hf _ (by omega) (by omega)
    iterate 2 refine mj_T.pl rfl rfl rfl rfl ?_
    refine mj_T.call (ins := .invokevirtual 114) rfl rfl (Nat.le_of_ble_eq_true rfl) (Nat.le_of_ble_eq_true rfl) (by simp [mj_recv, jS_a G hs]) rfl (jp_degreeOf (D := D + 2) G (p := b) (by omega) hs) (fun v' h' hq' => ?_) (fun i h' hq' => by cases hq')
    cases hq'
    rw [hjb]
    refine mj_T.pl rfl rfl rfl rfl ?_
    refine jx_mp2 (D := D) (V := V) (Gt := Gt) (i := m) (N := n + jdg V b 13) G hto ha hb hta htb hal hbe hdeg hfit (by omega) (fun W1 h1 hs1 g1 g2 g3 g4 => ?_) (by omega) (jdg V b 13) n W h (Nat.le_refl _) rfl hs hf h1 h2 (fun e he => by
      have y := h3 e he
      rw [show prs V a b (m + 1) e = prs V a b m e + psm V a b m (jdg V b 13) e from rfl] at y
      omega)
    refine mj_T.iinc (a := (m : Int)) rfl rfl ?_
    refine mj_T.pl rfl rfl rfl rfl ?_
    exact ih (n + jdg V b 13) W1 h1 _ (by omega) (by omega) hs1 g1 g2 g3 g4
theorem jx_multipliesPoly (G : jG hp q0 q1 q2 q3 fs) (hto : to ≤ 49) (ha : a ≤ 49) (hb : b ≤ 49) (hta : to ≠ a) (htb : to ≠ b) {al be : Nat} (hal : ∀ e, e < 13 → (V (a * 13 + e)).natAbs ≤ al) (hbe : ∀ e, e < 13 → (V (b * 13 + e)).natAbs ≤ be) (hdeg : jdg V a 13 = 0 ∨ jdg V b 13 = 0 ∨ jdg V a 13 + jdg V b 13 ≤ 14) (hfit : 169 * (al * be) < jB ^ 698) (hs : jS hp q1 q2 q3 V h) :
    mj_Ok (D + 5) 202 [.ref q0, .int (jn (to : Nat)), .int (jn (a : Nat)), .int (jn (b : Nat))] h (fun r => ∃ (W : Nat → Int) (h' : mj_H), jS hp q1 q2 q3 W h' ∧ (∀ s, (s < to * 13 ∨ to * 13 + 13 ≤ s) → s ≠ 652 → W s = V s) ∧ (∀ e, e < 13 → (W (to * 13 + e)).natAbs ≤ 169 * (al * be)) ∧ jdg W to 13 ≤ jdg V a 13 + jdg V b 13 - 1 ∧ (∀ e, e < 13 → W (to * 13 + e) = prs V a b (jdg V a 13) e) ∧ r = (.inl none, h')) := by
  have hal1 := jdg_le V a 13
  refine mj_Ok.of (M := mj_m202) rfl rfl rfl ?_
  iterate 2 refine mj_T.pl rfl rfl rfl rfl ?_
  refine mj_T.call (ins := .invokevirtual 110) rfl rfl (Nat.le_of_ble_eq_true rfl) (Nat.le_of_ble_eq_true rfl) (by simp [mj_recv, jS_a G hs]) rfl (jp_empties (D := D + 2) G (p := to) (by omega) hs) (fun v' h1 hq' => ?_) (fun i h' hq' => by obtain ⟨_, _, h⟩ := hq'; cases h)
  obtain ⟨_, hs1, hq'⟩ := hq'
  cases hq'
  have a1 : ∀ e, e < 13 → jfl V to (fun _ => 0) 13 (to * 13 + e) = 0 := fun e he => jfl_at _ to _ he
  have a2 : ∀ s, (s < to * 13 ∨ to * 13 + 13 ≤ s) → jfl V to (fun _ => 0) 13 s = V s := fun s hc => jfl_off _ to _ hc
  generalize jfl V to (fun _ => 0) 13 = W1 at hs1 a1 a2
  have hja : jdg W1 a 13 = jdg V a 13 := jdg_congr 13 fun e he => a2 _ (by omega)
  iterate 2 refine mj_T.pl rfl rfl rfl rfl ?_
  refine mj_T.call (ins := .invokevirtual 114) rfl rfl (Nat.le_of_ble_eq_true rfl) (Nat.le_of_ble_eq_true rfl) (by simp [mj_recv, jS_a G hs1]) rfl (jp_degreeOf (D := D + 2) G (p := a) (by omega) hs1) (fun v' h' hq' => ?_) (fun i h' hq' => by cases hq')
  cases hq'
  rw [hja]
  refine mj_T.pl rfl rfl rfl rfl ?_
  refine jx_mp1 (D := D) (V := V) G hto ha hb hta htb hal hbe hdeg hfit (Gt := prs V a b (jdg V a 13)) (fun W h k1 k2 k3 k4 k5 => ⟨W, h, k1, k2, k3, jdg_of_zero fun e e1 e2 => k4 e e2 (by omega), k5, rfl⟩) (jdg V a 13) 0 W1 h1 _ (Nat.le_refl _) (by omega) hs1 (fun s x1 x2 => a2 s x1) (fun e he => by rw [a1 e he]; exact Nat.zero_le _) (fun e he _ => a1 e he) (fun e he => by rw [a1 e he, Int.zero_add])
end JMX
theorem psm_eq (V : Nat → Int) (a b i e : Nat) : ∀ m, psm V a b i m e = if i ≤ e ∧ e - i < m then V (a * 13 + i) * V (b * 13 + (e - i)) else 0
  | 0 => by
    rw [if_neg (by omega)]
    rfl
  | m + 1 => by
    show psm V a b i m e + (if i + m = e then V (a * 13 + i) * V (b * 13 + m) else 0) = _
    rw [psm_eq V a b i e m]
    by_cases c : i + m = e
    · rw [if_pos c, if_neg (by omega), if_pos (by omega), show e - i = m by omega, Int.zero_add]
    · rw [if_neg c, Int.add_zero]
      by_cases d : i ≤ e ∧ e - i < m
      · rw [if_pos d, if_pos (by omega)]
      · rw [if_neg d, if_neg (by omega)]
theorem jpo_zb {V : Nat → Int} {p i : Nat} (h : jdg V p 13 ≤ i) : jpo V p i = 0 := by
  unfold jpo
  split
  · exact jdg_zero V p 13 i h (by omega)
  · rfl
theorem prs_zs (V : Nat → Int) (a b e : Nat) : ∀ m, m ≤ 13 → prs V a b m e = zs m (fun u => if u ≤ e then jpo V a u * jpo V b (e - u) else 0)
  | 0, _ => rfl
  | m + 1, hm => by
    show prs V a b m e + psm V a b m (jdg V b 13) e = zs m (fun u => if u ≤ e then jpo V a u * jpo V b (e - u) else 0) + (if m ≤ e then jpo V a m * jpo V b (e - m) else 0)
    rw [prs_zs V a b e m (by omega), psm_eq]
    congr 1
    have hd := jdg_le V b 13
    by_cases c : m ≤ e
    · rw [if_pos c]
      by_cases d : e - m < jdg V b 13
      · rw [if_pos ⟨c, d⟩, jpo_at (by omega), jpo_at (by omega)]
      · rw [if_neg (fun q => d q.2), jpo_zb (V := V) (p := b) (i := e - m) (by omega), Int.mul_zero]
    · rw [if_neg c, if_neg (fun q => c q.1)]
theorem prs_mul (V : Nat → Int) (a b e : Nat) : prs V a b (jdg V a 13) e = pz_mul (jpo V a) (jpo V b) e := by
  rw [prs_zs V a b e _ (jdg_le V a 13), ← tw_end (A := jpo V a) (B := jpo V b) (da := jdg V a 13) (fun i hi => jpo_zb hi)]
  show _ = zs _ _ + (if jdg V a 13 ≤ e ∧ e - jdg V a 13 < 0 then _ else 0)
  rw [if_neg (by omega), Int.add_zero]
/-! The reference, exactly: multiply. -/
/-- the polynomial P is laid into a register if it fits -/
def RP (tm er : Int) (T : Nat → Int) (N0 : Nat → Int) (u0 : Nat) (H : Nat → Nat → Int) (reg : Prop) (P : pz_P) (to : Int) (z : mj_R) : Prop := (reg ∧ ((fit13 P ∧ ∃ w : Nat → Int, (∀ j, j < 13 → w j = P j) ∧ rIx (jfl N0 to.toNat w 13) (upu u0) (pushH N0 H) tm er T z) ∨ (¬ fit13 P ∧ rIx N0 u0 H tm er T z))) ∨ (¬ reg ∧ rIx N0 u0 H tm er T z)
theorem jpo_ltd (V : Nat → Int) (p : Nat) : pz_lt (jpo V p) (jdg V p 13) := fun i hi => jpo_zb hi
theorem jpo_big {V : Nat → Int} {a b : Nat} (h1 : 1 ≤ jdg V a 13) (h2 : 1 ≤ jdg V b 13) (h3 : 14 < jdg V a 13 + jdg V b 13) : ¬ fit13 (pz_mul (jpo V a) (jpo V b)) := fun q => by
  obtain ⟨n, hn⟩ : ∃ n, jdg V a 13 = n + 1 := ⟨jdg V a 13 - 1, by omega⟩
  obtain ⟨d, hd⟩ : ∃ d, jdg V b 13 = d + 1 := ⟨jdg V b 13 - 1, by omega⟩
  have ha := jdg_le V a 13
  have hb := jdg_le V b 13
  have e : pz_mul (jpo V a) (jpo V b) (n + d) = jpo V a n * jpo V b d := pz_c_lead n (jpo V a) (jpo V b) d (by rw [← hn]; exact jpo_ltd V a) (by rw [← hd]; exact jpo_ltd V b)
  have k1 := jdg_ne V a 13 h1
  have k2 := jdg_ne V b 13 h2
  rw [hn, Nat.add_sub_cancel] at k1
  rw [hd, Nat.add_sub_cancel] at k2
  rw [q.2 _ (by omega), jpo_at (by omega), jpo_at (by omega)] at e
  exact (Int.mul_ne_zero k1 k2) e.symm
section RPM
variable {h : mj_H} {tm er : Int} {T : Nat → Int} {N0 : Nat → Int} {u0 : Nat} {H : Nat → Nat → Int}
theorem rx_multiply {x y z : Int} (hx : jr x) (hy : jr y) (hz : jr z) (hI : jIx N0 u0 H tm er T h) : mj_Ok 40 233 [.ref 0, .int (jn x), .int (jn y), .int (jn z)] h (RP tm er T N0 u0 H ((0 ≤ x ∧ x ≤ 5) ∧ (0 ≤ y ∧ y ≤ 5) ∧ (0 ≤ z ∧ z ≤ 5)) (pz_mul (rwN N0 y) (rwN N0 z)) x) := by
  refine mj_Ok.of (M := mj_m233) rfl rfl rfl ?_
  obtain ⟨S, N, B, X, V, hs, K⟩ := hI
  iterate 2 refine mj_T.pl rfl rfl rfl rfl ?_
  refine rT_put (v := 0) hs rfl rfl (by decide) rfl (fun g1 hs1 => ?_)
  have K1 := K.put (k := 3) (v := 0) ⟨by decide, by decide⟩ (by decide) (by decide) (by decide) (by decide) (by decide)
  generalize jvu S 3 0 = S1 at hs1 K1
  iterate 3 refine mj_T.pl rfl rfl rfl rfl ?_
  refine mj_T.call (ins := .invokestatic 210) rfl rfl (Nat.le_of_ble_eq_true rfl) (Nat.le_of_ble_eq_true rfl) rfl rfl (mj_Ok.up (by decide) (rx_areRegisters (D := 0) hx hy hz)) (fun v' h' hq' => ?_) (fun i h' hq' => by rcases hq' with ⟨_, _, h⟩ | ⟨_, h⟩ <;> cases h)
  rcases hq' with ⟨⟨x1, x2⟩, ⟨y3, y4, z5, z6⟩, hq'⟩ | ⟨hno, hq'⟩
  case' inr =>
    cases hq'
    refine mj_T.if0 (a := 0) rfl ⟨by decide, by decide⟩ (fun hc => ?_) (fun hc => ?_)
    · simp [jc] at hc
    iterate 2 refine mj_T.pl rfl rfl rfl rfl ?_
    refine mj_T.call (ins := .invokevirtual 198) rfl rfl (Nat.le_of_ble_eq_true rfl) (Nat.le_of_ble_eq_true rfl) (by simp [mj_recv, rS_f hs1]) rfl (mj_Ok.up (by decide) (rp_fails (D := 0) (c := 1) hs1)) (fun v' g2 hq' => ?_) (fun i h' hq' => by obtain ⟨_, _, h⟩ := hq'; cases h)
    obtain ⟨_, hs2, hq'⟩ := hq'
    cases hq'
    exact mj_T.ret rfl rfl rfl (Or.inr ⟨hno, 0, g2, ⟨by decide, by decide⟩, rfl, ⟨_, N, B, X, V, hs2, K1.put ⟨by decide, by decide⟩ (by decide) (by decide) (by decide) (by decide) (by decide)⟩⟩)
  cases hq'
  refine mj_T.if0 (a := 1) rfl ⟨by decide, by decide⟩ (fun hc => ?_) (fun hc => ?_)
  rotate_left
  · simp [jc] at hc
  obtain ⟨x, rfl⟩ := Int.eq_ofNat_of_zero_le x1
  obtain ⟨y, rfl⟩ := Int.eq_ofNat_of_zero_le y3
  obtain ⟨z, rfl⟩ := Int.eq_ofNat_of_zero_le z5
  iterate 3 refine mj_T.pl rfl rfl rfl rfl ?_
  refine mj_T.call (ins := .invokevirtual 213) rfl rfl (Nat.le_of_ble_eq_true rfl) (Nat.le_of_ble_eq_true rfl) (by simp [mj_recv, rS_f hs1]) rfl (mj_Ok.up (by decide) (rp_loads (D := 0) (p := 0) (r := y) (by decide) (by omega) K1.nR hs1)) (fun v' g3 hq' => ?_) (fun i h' hq' => by obtain ⟨_, _, h⟩ := hq'; cases h)
  obtain ⟨_, hs3, hq'⟩ := hq'
  cases hq'
  have a3 : ∀ e, e < 13 → jfl V 0 (fun e => N (y * 13 + e)) 13 (0 * 13 + e) = N (y * 13 + e) := fun e he => jfl_at _ _ _ he
  have b3 : ∀ s, (s < 0 * 13 ∨ 0 * 13 + 13 ≤ s) → jfl V 0 (fun e => N (y * 13 + e)) 13 s = V s := fun s hc => jfl_off _ _ _ hc
  generalize jfl V 0 (fun e => N (y * 13 + e)) 13 = W3 at hs3 a3 b3
  iterate 3 refine mj_T.pl rfl rfl rfl rfl ?_
  refine mj_T.call (ins := .invokevirtual 213) rfl rfl (Nat.le_of_ble_eq_true rfl) (Nat.le_of_ble_eq_true rfl) (by simp [mj_recv, rS_f hs3]) rfl (mj_Ok.up (by decide) (rp_loads (D := 0) (p := 1) (r := z) (by decide) (by omega) K1.nR hs3)) (fun v' g4 hq' => ?_) (fun i h' hq' => by obtain ⟨_, _, h⟩ := hq'; cases h)
  obtain ⟨_, hs4, hq'⟩ := hq'
  cases hq'
  have a4 : ∀ e, e < 13 → jfl W3 1 (fun e => N (z * 13 + e)) 13 (1 * 13 + e) = N (z * 13 + e) := fun e he => jfl_at _ _ _ he
  have b4 : ∀ s, (s < 1 * 13 ∨ 1 * 13 + 13 ≤ s) → jfl W3 1 (fun e => N (z * 13 + e)) 13 s = W3 s := fun s hc => jfl_off _ _ _ hc
  generalize jfl W3 1 (fun e => N (z * 13 + e)) 13 = W4 at hs4 a4 b4
  have eA : jpo W4 0 = rwN N0 (y : Int) := funext fun e => by
    unfold jpo
    by_cases q : e < 13
    · rw [if_pos q, b4 _ (by omega), a3 e q]
      exact rwN_at K1.2.1 (by omega) q
    · rw [if_neg q]
      show 0 = if e < 13 then _ else 0
      rw [if_neg q]
  have eB : jpo W4 1 = rwN N0 (z : Int) := funext fun e => by
    unfold jpo
    by_cases q : e < 13
    · rw [if_pos q, a4 e q]
      exact rwN_at K1.2.1 (by omega) q
    · rw [if_neg q]
      show 0 = if e < 13 then _ else 0
      rw [if_neg q]
  have c1 : ∀ e, e < 13 → (W4 (0 * 13 + e)).natAbs ≤ 10 ^ 18 := fun e he => by
    rw [b4 _ (by omega), a3 e he]
    exact K1.sh (r := y) (by omega) he
  have c2 : ∀ e, e < 13 → (W4 (1 * 13 + e)).natAbs ≤ 10 ^ 18 := fun e he => by
    rw [a4 e he]
    exact K1.sh (r := z) (by omega) he
  iterate 3 refine mj_T.pl rfl rfl rfl rfl ?_
  refine mj_T.call (ins := .invokevirtual 223) rfl rfl (Nat.le_of_ble_eq_true rfl) (Nat.le_of_ble_eq_true rfl) (by simp [mj_recv, rS_f hs4]) rfl (mj_Ok.up (by decide) (jp_isTooHigh (D := 0) (rG S1 N B T X) (a := 0) (b := 1) (by decide) (by decide) hs4)) (fun v' h' hq' => ?_) (fun i h' hq' => by rcases hq' with ⟨_, _, _, h⟩ | ⟨_, h⟩ <;> cases h)
  rcases hq' with ⟨t1, t2, t3, hq'⟩ | ⟨hdeg, hq'⟩
  case' inl =>
    cases hq'
    refine mj_T.if0 (a := 1) rfl ⟨by decide, by decide⟩ (fun hc => ?_) (fun hc => ?_)
    · simp [jc] at hc
    iterate 2 refine mj_T.pl rfl rfl rfl rfl ?_
    refine mj_T.call (ins := .invokevirtual 198) rfl rfl (Nat.le_of_ble_eq_true rfl) (Nat.le_of_ble_eq_true rfl) (by simp [mj_recv, rS_f hs4]) rfl (mj_Ok.up (by decide) (rp_fails (D := 0) (c := 2) hs4)) (fun v' g5 hq' => ?_) (fun i h' hq' => by obtain ⟨_, _, h⟩ := hq'; cases h)
    obtain ⟨_, hs5, hq'⟩ := hq'
    cases hq'
    have hbad := jpo_big t1 t2 t3
    rw [eA, eB] at hbad
    exact mj_T.ret rfl rfl rfl (Or.inl ⟨⟨⟨by omega, by omega⟩, ⟨by omega, by omega⟩, ⟨by omega, by omega⟩⟩, Or.inr ⟨hbad, 0, g5, ⟨by decide, by decide⟩, rfl, ⟨_, N, B, X, W4, hs5, K1.put ⟨by decide, by decide⟩ (by decide) (by decide) (by decide) (by decide) (by decide)⟩⟩⟩)
  cases hq'
  refine mj_T.if0 (a := 0) rfl ⟨by decide, by decide⟩ (fun hc => ?_) (fun hc => ?_)
  rotate_left
  · simp [jc] at hc
  iterate 4 refine mj_T.pl rfl rfl rfl rfl ?_
  refine mj_T.call (ins := .invokevirtual 121) rfl rfl (Nat.le_of_ble_eq_true rfl) (Nat.le_of_ble_eq_true rfl) (by simp [mj_recv, rS_f hs4]) rfl (mj_Ok.up (by decide) (jx_multipliesPoly (D := 0) (rG S1 N B T X) (to := 2) (a := 0) (b := 1) (by decide) (by decide) (by decide) (by decide) (by decide) c1 c2 hdeg rp_small2 hs4)) (fun v' g6 hq' => ?_) (fun i h' hq' => by obtain ⟨_, _, _, _, _, _, _, h⟩ := hq'; cases h)
  obtain ⟨W6, _, hs6, _, _, _, hW, hq'⟩ := hq'
  cases hq'
  iterate 4 refine mj_T.pl rfl rfl rfl rfl ?_
  refine mj_T.call (ins := .invokevirtual 219) rfl rfl (Nat.le_of_ble_eq_true rfl) (Nat.le_of_ble_eq_true rfl) (by simp [mj_recv, rS_f hs6]) rfl (mj_Ok.up (by decide) (rx_puts (D := 0) (r := x) (p := 2) (c := 2) (by omega) (by decide) ⟨by decide, by decide⟩ K1 hs6)) (fun v' h' hq' => ?_) (fun i h' hq' => by rcases hq' with ⟨_, _, _, _, h, _⟩ | ⟨_, _, _, _, h, _⟩ <;> cases h)
  have hres : ∀ j, j < 13 → (fun e => W6 (2 * 13 + e)) j = pz_mul (rwN N0 (y : Int)) (rwN N0 (z : Int)) j := fun j hj => by
    rw [← eA, ← eB]
    exact (hW j hj).trans (prs_mul W4 0 1 j)
  have hz : ∀ i, 13 ≤ i → pz_mul (rwN N0 (y : Int)) (rwN N0 (z : Int)) i = 0 := fun i hi => by
    rw [← eA, ← eB]
    have ha := jdg_le W4 0 13
    have hb := jdg_le W4 1 13
    exact pz_lt.mul (c := 13) (jpo_ltd W4 0) (jpo_ltd W4 1) (by omega) i hi
  rcases hq' with ⟨hs9, z9, h9, hz9, e9, hI9⟩ | ⟨hs9, z9, h9, hz9, e9, hI9⟩
  · cases e9
    exact mj_T.ret rfl rfl rfl (Or.inl ⟨⟨⟨by omega, by omega⟩, ⟨by omega, by omega⟩, ⟨by omega, by omega⟩⟩, Or.inl ⟨⟨sml_cg hres hs9, hz⟩, _, hres, z9, _, hz9, rfl, hI9⟩⟩)
  · cases e9
    exact mj_T.ret rfl rfl rfl (Or.inl ⟨⟨⟨by omega, by omega⟩, ⟨by omega, by omega⟩, ⟨by omega, by omega⟩⟩, Or.inr ⟨fun q => hs9 (sml_cg (fun j hj => (hres j hj).symm) q.1), z9, _, hz9, rfl, hI9⟩⟩)
end RPM
/-! The reference's power of a polynomial, exactly. -/
section JRX
variable {D : Nat} {hp h : mj_H} {q0 q1 q2 q3 : Nat} {fs : List Value} {V : Nat → Int} {a p : Nat}
theorem pw_z {A : pz_P} {d j : Nat} (hA : ∀ i, d < i → A i = 0) (hj : d * j ≤ 12) : ∀ i, 13 ≤ i → pw A j i = 0 := fun i hi => (pw_lead hA j).1 i (by rw [Nat.mul_comm]; omega)
theorem jx_ra (G : jG hp q0 q1 q2 q3 fs) (hpp : p ≤ 49) (hp7 : p ≠ 7) (ha : a ≤ 49) (ha7 : a ≠ 7) (hpa : p ≠ a) {al : Nat} (hal1 : 1 ≤ al) (hal : ∀ e, e < 13 → (V (a * 13 + e)).natAbs ≤ al) {n : Nat} (hn : n ≤ 12) (hfit : (169 * al) ^ 12 < jB ^ 698) (hdeg : (jdg V a 13 - 1) * n ≤ 12) {Q : mj_R → Prop}
    (hend : ∀ (W : Nat → Int) (h : mj_H), jS hp q1 q2 q3 W h → (∀ s, (s < p * 13 ∨ p * 13 + 13 ≤ s) → (s < 91 ∨ 104 ≤ s) → s ≠ 652 → W s = V s) → (∀ e, e < 13 → (W (p * 13 + e)).natAbs ≤ (169 * al) ^ 12) → (∀ e, e < 13 → W (p * 13 + e) = pw (jpo V a) n e) → Q (.inl (some (.int (jn 1))), h)) :
    ∀ (m j : Nat) (W : Nat → Int) (h : mj_H), j + m = n → jS hp q1 q2 q3 W h → (∀ s, (s < p * 13 ∨ p * 13 + 13 ≤ s) → (s < 91 ∨ 104 ≤ s) → s ≠ 652 → W s = V s) → (∀ e, e < 13 → (W (p * 13 + e)).natAbs ≤ (169 * al) ^ j) → jdg W p 13 ≤ (jdg V a 13 - 1) * j + 1 → (∀ e, e < 13 → W (p * 13 + e) = pw (jpo V a) j e) → mj_T (D + 5) mj_m204 40 [some (.ref q0), some (.int (jn (p : Nat))), some (.int (jn (a : Nat))), some (.int (jn (n : Nat))), some (.int (jn (j : Nat)))] [] h Q := by
  have hal2 := jdg_le V a 13
  have mono : ∀ j, j ≤ 12 → (169 * al) ^ j ≤ (169 * al) ^ 12 := fun j hj => Nat.pow_le_pow_right (by omega) hj
  intro m
  induction m with
  | zero =>
    intro j W h hj hs hf h1 h2 h3
    iterate 2 refine mj_T.pl rfl rfl rfl rfl ?_
    refine mj_T.icmp (a := (j : Int)) (b := (n : Int)) rfl ⟨by omega, by omega⟩ ⟨by omega, by omega⟩ (fun hc => ?_) (fun hc => ?_)
    · refine mj_T.pl rfl rfl rfl rfl ?_
      exact mj_T.ret rfl rfl rfl (hend W h hs hf (fun e he => Nat.le_trans (h1 e he) (mono j (by omega))) (fun e he => by rw [h3 e he, show j = n by omega]))
    · simp only [jc, Bool.not_eq_false', decide_eq_true_eq, decide_eq_false_iff_not] at hc
      omega
  | succ m ih =>
    intro j W h hj hs hf h1 h2 h3
    iterate 2 refine mj_T.pl rfl rfl rfl rfl ?_
    refine mj_T.icmp (a := (j : Int)) (b := (n : Int)) rfl ⟨by omega, by omega⟩ ⟨by omega, by omega⟩ (fun hc => ?_) (fun hc => ?_)
    · simp only [jc, Bool.not_eq_false', decide_eq_true_eq, decide_eq_false_iff_not] at hc
      omega
    have hja : jdg W a 13 = jdg V a 13 := jdg_congr 13 fun e he => hf _ (by omega) (by omega) (by omega)
    have hd1 : (jdg V a 13 - 1) * (j + 1) ≤ 12 := Nat.le_trans (Nat.mul_le_mul_left _ (by omega)) hdeg
    have hd2 : (jdg V a 13 - 1) * (j + 1) = (jdg V a 13 - 1) * j + (jdg V a 13 - 1) := Nat.mul_succ _ _
    have hsz : 169 * ((169 * al) ^ j * al) = (169 * al) ^ (j + 1) := by
      rw [Nat.pow_succ, ← Nat.mul_assoc, Nat.mul_comm 169, Nat.mul_assoc]
    iterate 4 refine mj_T.pl rfl rfl rfl rfl ?_
    refine mj_T.call (ins := .invokevirtual 121) rfl rfl (Nat.le_of_ble_eq_true rfl) (Nat.le_of_ble_eq_true rfl) (by simp [mj_recv, jS_a G hs]) rfl (jx_multipliesPoly (D := D) (V := W) G (to := 7) (a := p) (b := a) (by decide) (by omega) (by omega) (by omega) (by omega) (al := (169 * al) ^ j) (be := al) h1 (fun e he => by rw [hf _ (by omega) (by omega) (by omega)]; exact hal e he) (by rw [hja]; omega) (by rw [hsz]; exact Nat.lt_of_le_of_lt (mono _ (by omega)) hfit) hs) (fun v' w2 hq' => ?_) (fun i h' hq' => by obtain ⟨_, _, _, _, _, _, _, h⟩ := hq'; cases h)
    obtain ⟨W1, _, hs1, b1, b2, b3, b4, hq'⟩ := hq'
    cases hq'
    iterate 3 refine mj_T.pl rfl rfl rfl rfl ?_
    refine mj_T.call (ins := .invokevirtual 124) rfl rfl (Nat.le_of_ble_eq_true rfl) (Nat.le_of_ble_eq_true rfl) (by simp [mj_recv, jS_a G hs1]) rfl (jp_copiesPoly (D := D + 2) G (p := p) (q := 7) (by omega) (by decide) (by omega) hs1) (fun v' w3 hq' => ?_) (fun i h' hq' => by obtain ⟨_, _, h⟩ := hq'; cases h)
    obtain ⟨_, hs2, hq'⟩ := hq'
    cases hq'
    have c1 : ∀ e, e < 13 → jfl W1 p (fun e => W1 (7 * 13 + e)) 13 (p * 13 + e) = W1 (7 * 13 + e) := fun e he => jfl_at _ p _ he
    have c2 : ∀ s, (s < p * 13 ∨ p * 13 + 13 ≤ s) → jfl W1 p (fun e => W1 (7 * 13 + e)) 13 s = W1 s := fun s hc => jfl_off _ p _ hc
    generalize jfl W1 p (fun e => W1 (7 * 13 + e)) 13 = W2 at hs2 c1 c2
    refine mj_T.iinc (a := (j : Int)) rfl rfl ?_
    refine mj_T.pl rfl rfl rfl rfl ?_
    refine ih (j + 1) W2 w3 (by omega) hs2 (fun s x1 x2 x3 => by rw [c2 s x1, b1 s (by omega) x3, hf s x1 x2 x3]) (fun e he => ?_) ?_ (fun e he => ?_)
    · rw [c1 e he, ← hsz]
      exact b2 e he
    · have : jdg W2 p 13 = jdg W1 7 13 := jdg_congr 13 c1
      omega
    · have jA : jpo W a = jpo V a := jpo_eq (fun e he => hf _ (by omega) (by omega) (by omega))
      have jz : ∀ i, 13 ≤ i → pw (jpo V a) j i = 0 := pw_z (d := jdg V a 13 - 1) (fun i hi => jpo_zb (by omega)) (by omega)
      have jP : jpo W p = pw (jpo V a) j := funext fun i => by
        unfold jpo
        by_cases q : i < 13
        · rw [if_pos q]
          exact h3 i q
        · rw [if_neg q]
          exact (jz i (by omega)).symm
      rw [c1 e he, b4 e he, prs_mul, jA, jP]
      rfl
theorem jx_raises (G : jG hp q0 q1 q2 q3 fs) (hpp : p ≤ 49) (hp7 : p ≠ 7) (ha : a ≤ 49) (ha7 : a ≠ 7) (hpa : p ≠ a) {al : Nat} (hal1 : 1 ≤ al) (hal : ∀ e, e < 13 → (V (a * 13 + e)).natAbs ≤ al) {n : Nat} (hn : n ≤ 12) (hfit : (169 * al) ^ 12 < jB ^ 698) (hs : jS hp q1 q2 q3 V h) :
    mj_Ok (D + 6) 204 [.ref q0, .int (jn (p : Nat)), .int (jn (a : Nat)), .int (jn (n : Nat))] h (fun r => ∃ (W : Nat → Int) (h' : mj_H), jS hp q1 q2 q3 W h' ∧ (∀ s, (s < p * 13 ∨ p * 13 + 13 ≤ s) → (s < 91 ∨ 104 ≤ s) → s ≠ 652 → W s = V s) ∧ (r = (.inl (some (.int (jn 0))), h') ∧ (W = V ∧ 12 < (jdg V a 13 - 1) * n) ∨ r = (.inl (some (.int (jn 1))), h') ∧ (jdg V a 13 - 1) * n ≤ 12 ∧ ∀ e, e < 13 → W (p * 13 + e) = pw (jpo V a) n e)) := by
  have hal2 := jdg_le V a 13
  refine mj_Ok.of (M := mj_m204) rfl rfl rfl ?_
  iterate 2 refine mj_T.pl rfl rfl rfl rfl ?_
  refine mj_T.call (ins := .invokevirtual 114) rfl rfl (Nat.le_of_ble_eq_true rfl) (Nat.le_of_ble_eq_true rfl) (by simp [mj_recv, jS_a G hs]) rfl (jp_degreeOf (D := D + 3) G (p := a) (by omega) hs) (fun v' h' hq' => ?_) (fun i h' hq' => by cases hq')
  cases hq'
  have t22 : (jdg V a 13 - 1) * n ≤ 12 → mj_T (D + 5) mj_m204 22 [some (.ref q0), some (.int (jn (p : Nat))), some (.int (jn (a : Nat))), some (.int (jn (n : Nat))), none] [] h (fun r => ∃ (W : Nat → Int) (h' : mj_H), jS hp q1 q2 q3 W h' ∧ (∀ s, (s < p * 13 ∨ p * 13 + 13 ≤ s) → (s < 91 ∨ 104 ≤ s) → s ≠ 652 → W s = V s) ∧ (r = (.inl (some (.int (jn 0))), h') ∧ (W = V ∧ 12 < (jdg V a 13 - 1) * n) ∨ r = (.inl (some (.int (jn 1))), h') ∧ (jdg V a 13 - 1) * n ≤ 12 ∧ ∀ e, e < 13 → W (p * 13 + e) = pw (jpo V a) n e)) := fun hdeg => by
    iterate 2 refine mj_T.pl rfl rfl rfl rfl ?_
    refine mj_T.call (ins := .invokevirtual 110) rfl rfl (Nat.le_of_ble_eq_true rfl) (Nat.le_of_ble_eq_true rfl) (by simp [mj_recv, jS_a G hs]) rfl (jp_empties (D := D + 3) G (p := p) (by omega) hs) (fun v' h1 hq' => ?_) (fun i h' hq' => by obtain ⟨_, _, h⟩ := hq'; cases h)
    obtain ⟨_, hs1, hq'⟩ := hq'
    cases hq'
    have a1 : ∀ e, e < 13 → jfl V p (fun _ => 0) 13 (p * 13 + e) = 0 := fun e he => jfl_at _ p _ he
    have a2 : ∀ s, (s < p * 13 ∨ p * 13 + 13 ≤ s) → jfl V p (fun _ => 0) 13 s = V s := fun s hc => jfl_off _ p _ hc
    generalize jfl V p (fun _ => 0) 13 = W1 at hs1 a1 a2
    iterate 3 refine mj_T.pl rfl rfl rfl rfl ?_
    refine mj_T.call (ins := .invokestatic 104) rfl rfl (Nat.le_of_ble_eq_true rfl) (Nat.le_of_ble_eq_true rfl) rfl rfl (jq_slot (D := D + 4) (p := p) (i := 0)) (fun v' h' hq' => ?_) (fun i h' hq' => by cases hq')
    cases hq'
    refine mj_T.pl rfl rfl rfl rfl ?_
    refine mj_T.call (ins := .invokevirtual 45) rfl rfl (Nat.le_of_ble_eq_true rfl) (Nat.le_of_ble_eq_true rfl) (by simp [mj_recv, jS_a G hs1]) rfl (jS_sets (D := D + 4) G (s := p * 13 + 0) (v := 1) (by omega) ⟨by decide, by decide⟩ hs1) (fun v' h2 hq' => ?_) (fun i h' hq' => by obtain ⟨_, _, h⟩ := hq'; cases h)
    obtain ⟨_, hs2, hq'⟩ := hq'
    cases hq'
    have b1 : jvu W1 (p * 13 + 0) (1) (p * 13 + 0) = 1 := jvu_at _ _ _
    have b2 : ∀ s, s ≠ (p * 13 + 0) → jvu W1 (p * 13 + 0) (1) s = W1 s := fun s hne => jvu_ne _ _ _ hne
    generalize jvu W1 (p * 13 + 0) (1) = W2 at hs2 b1 b2
    iterate 2 refine mj_T.pl rfl rfl rfl rfl ?_
    refine jx_ra (D := D) (V := V) G hpp hp7 ha ha7 hpa hal1 hal hn hfit hdeg (fun W h k1 k2 k3 k4 => ⟨W, h, k1, k2, Or.inr ⟨rfl, hdeg, k4⟩⟩) n 0 W2 h2 (by omega) hs2 (fun s x1 x2 x3 => by rw [b2 s (by omega), a2 s x1]) (fun e he => ?_) ?_ (fun e he => ?_)
    · by_cases h0 : e = 0
      · subst h0
        rw [b1]
        exact Nat.le_refl _
      · rw [b2 _ (by omega), a1 e he]
        exact Nat.zero_le _
    · refine Nat.le_trans (jdg_of_zero (d := 1) fun e e1 e2 => ?_) (by omega)
      rw [b2 _ (by omega), a1 e e2]
    · show W2 (p * 13 + e) = if e = 0 then 1 else 0
      by_cases h0 : e = 0
      · subst h0
        rw [b1]
        rfl
      · rw [b2 _ (by omega), a1 e he, if_neg h0]
  refine mj_T.if0 (a := (jdg V a 13 : Int) - 1) rfl ⟨by omega, by omega⟩ (fun hc => ?_) (fun hc => ?_)
  · simp only [jc, Bool.not_eq_true', decide_eq_true_eq, decide_eq_false_iff_not] at hc
    exact t22 (by rw [show jdg V a 13 - 1 = 0 by omega, Nat.zero_mul]; exact Nat.zero_le _)
  simp only [jc, Bool.not_eq_false', decide_eq_true_eq, decide_eq_false_iff_not] at hc
  iterate 2 refine mj_T.pl rfl rfl rfl rfl ?_
  refine mj_T.call (ins := .invokevirtual 114) rfl rfl (Nat.le_of_ble_eq_true rfl) (Nat.le_of_ble_eq_true rfl) (by simp [mj_recv, jS_a G hs]) rfl (jp_degreeOf (D := D + 3) G (p := a) (by omega) hs) (fun v' h' hq' => ?_) (fun i h' hq' => by cases hq')
  cases hq'
  refine mj_T.pl rfl rfl rfl rfl ?_
  have e1 : ((jdg V a 13 : Nat) : Int) - 1 = ((jdg V a 13 - 1 : Nat) : Int) := by omega
  have e2 : (jdg V a 13 - 1) * n ≤ 12 * 12 := Nat.mul_le_mul (by omega) hn
  rw [e1]
  refine mj_T.imul rfl ?_
  rw [← Int.natCast_mul]
  refine mj_T.pl rfl rfl rfl rfl ?_
  refine mj_T.icmp (a := (((jdg V a 13 - 1) * n : Nat) : Int)) (b := 12) rfl ⟨by omega, by omega⟩ ⟨by decide, by decide⟩ (fun hc2 => ?_) (fun hc2 => ?_)
  · simp only [jc, Bool.not_eq_true', decide_eq_true_eq, decide_eq_false_iff_not] at hc2
    exact t22 (by omega)
  · refine mj_T.pl rfl rfl rfl rfl ?_
    exact mj_T.ret rfl rfl rfl ⟨V, h, hs, fun s _ _ _ => rfl, Or.inl ⟨rfl, rfl, by
      simp only [jc, Bool.not_eq_false', decide_eq_true_eq, decide_eq_false_iff_not] at hc2
      omega⟩⟩
end JRX
/-! The reference, exactly: power. -/
section RPQ
variable {h : mj_H} {tm er : Int} {T : Nat → Int} {N0 : Nat → Int} {u0 : Nat} {H : Nat → Nat → Int}
theorem pw_nofit {V : Nat → Int} {a n : Nat} (h : 12 < (jdg V a 13 - 1) * n) : ¬ fit13 (pw (jpo V a) n) := fun q => by
  have h1 : 1 ≤ jdg V a 13 := by
    rcases Nat.eq_zero_or_pos (jdg V a 13 - 1) with y | y
    · rw [y, Nat.zero_mul] at h
      omega
    · omega
  have k := jdg_ne V a 13 h1
  have hd := jdg_le V a 13
  have e := (pw_lead (B := jpo V a) (d := jdg V a 13 - 1) (fun i hi => jpo_zb (by omega)) n).2
  rw [q.2 _ (by rw [Nat.mul_comm]; omega), jpo_at (by omega)] at e
  exact Int.pow_ne_zero k e.symm
theorem rx_power {x y z : Int} (hx : jr x) (hy : jr y) (hz : jr z) (hI : jIx N0 u0 H tm er T h) : mj_Ok 40 234 [.ref 0, .int (jn x), .int (jn y), .int (jn z)] h (RP tm er T N0 u0 H (((0 ≤ x ∧ x ≤ 5) ∧ (0 ≤ y ∧ y ≤ 5)) ∧ (0 ≤ z ∧ z ≤ 12)) (pw (rwN N0 y) z.toNat) x) := by
  refine mj_Ok.of (M := mj_m234) rfl rfl rfl ?_
  obtain ⟨S, N, B, X, V, hs, K⟩ := hI
  iterate 2 refine mj_T.pl rfl rfl rfl rfl ?_
  refine rT_put (v := 0) hs rfl rfl (by decide) rfl (fun g7 hs7 => ?_)
  have K7 := K.put (k := 3) (v := 0) ⟨by decide, by decide⟩ (by decide) (by decide) (by decide) (by decide) (by decide)
  generalize jvu S 3 0 = S7 at hs7 K7
  iterate 3 refine mj_T.pl rfl rfl rfl rfl ?_
  refine mj_T.call (ins := .invokestatic 210) rfl rfl (Nat.le_of_ble_eq_true rfl) (Nat.le_of_ble_eq_true rfl) rfl rfl (mj_Ok.up (by decide) (rx_areRegisters (D := 0) hx hy hy)) (fun v' h' hq' => ?_) (fun i h' hq' => by rcases hq' with ⟨_, _, h⟩ | ⟨_, h⟩ <;> cases h)
  rcases hq' with ⟨⟨x1, x2⟩, ⟨y3, y4, y5, y6⟩, hq'⟩ | ⟨hno, hq'⟩
  case' inr =>
    cases hq'
    refine mj_T.if0 (a := 0) rfl ⟨by decide, by decide⟩ (fun hc => ?_) (fun hc => ?_)
    · simp [jc] at hc
    iterate 2 refine mj_T.pl rfl rfl rfl rfl ?_
    refine mj_T.call (ins := .invokevirtual 198) rfl rfl (Nat.le_of_ble_eq_true rfl) (Nat.le_of_ble_eq_true rfl) (by simp [mj_recv, rS_f hs7]) rfl (mj_Ok.up (by decide) (rp_fails (D := 0) (c := 1) hs7)) (fun v' g8 hq' => ?_) (fun i h' hq' => by obtain ⟨_, _, h⟩ := hq'; cases h)
    obtain ⟨_, hs8, hq'⟩ := hq'
    cases hq'
    exact mj_T.ret rfl rfl rfl (Or.inr ⟨fun q => hno ⟨q.1.1, q.1.2, q.1.2⟩, 0, g8, ⟨by decide, by decide⟩, rfl, ⟨_, N, B, X, V, hs8, K7.put ⟨by decide, by decide⟩ (by decide) (by decide) (by decide) (by decide) (by decide)⟩⟩)
  cases hq'
  refine mj_T.if0 (a := 1) rfl ⟨by decide, by decide⟩ (fun hc => ?_) (fun hc => ?_)
  rotate_left
  · simp [jc] at hc
  obtain ⟨x, rfl⟩ := Int.eq_ofNat_of_zero_le x1
  obtain ⟨y, rfl⟩ := Int.eq_ofNat_of_zero_le y3
  refine mj_T.pl rfl rfl rfl rfl ?_
  refine mj_T.i2l rfl hz ?_
  iterate 2 refine mj_T.pl rfl rfl rfl rfl ?_
  refine mj_T.call (ins := .invokestatic 177) rfl rfl (Nat.le_of_ble_eq_true rfl) (Nat.le_of_ble_eq_true rfl) rfl rfl (mj_Ok.up (by decide) (rp_in (D := 0) (v := z) (lo := 0) (hi := 12) ⟨by have := hz.1; omega, by have := hz.2; omega⟩ ⟨by decide, by decide⟩ ⟨by decide, by decide⟩)) (fun v' h' hq' => ?_) (fun i h' hq' => by rcases hq' with ⟨_, _, h⟩ | ⟨_, h⟩ <;> cases h)
  rcases hq' with ⟨r9a, r9b, hq'⟩ | ⟨cn, hq'⟩
  case' inr =>
    cases hq'
    refine mj_T.if0 (a := 0) rfl ⟨by decide, by decide⟩ (fun hc => ?_) (fun hc => ?_)
    · simp [jc] at hc
    iterate 2 refine mj_T.pl rfl rfl rfl rfl ?_
    refine mj_T.call (ins := .invokevirtual 198) rfl rfl (Nat.le_of_ble_eq_true rfl) (Nat.le_of_ble_eq_true rfl) (by simp [mj_recv, rS_f hs7]) rfl (mj_Ok.up (by decide) (rp_fails (D := 0) (c := 2) hs7)) (fun v' g10 hq' => ?_) (fun i h' hq' => by obtain ⟨_, _, h⟩ := hq'; cases h)
    obtain ⟨_, hs10, hq'⟩ := hq'
    cases hq'
    exact mj_T.ret rfl rfl rfl (Or.inr ⟨by omega, 0, g10, ⟨by decide, by decide⟩, rfl, ⟨_, N, B, X, V, hs10, K7.put ⟨by decide, by decide⟩ (by decide) (by decide) (by decide) (by decide) (by decide)⟩⟩)
  cases hq'
  refine mj_T.if0 (a := 1) rfl ⟨by decide, by decide⟩ (fun hc => ?_) (fun hc => ?_)
  rotate_left
  · simp [jc] at hc
  obtain ⟨z, rfl⟩ := Int.eq_ofNat_of_zero_le r9a
  iterate 3 refine mj_T.pl rfl rfl rfl rfl ?_
  refine mj_T.call (ins := .invokevirtual 213) rfl rfl (Nat.le_of_ble_eq_true rfl) (Nat.le_of_ble_eq_true rfl) (by simp [mj_recv, rS_f hs7]) rfl (mj_Ok.up (by decide) (rp_loads (D := 0) (p := 0) (r := y) (by decide) (by omega) K7.nR hs7)) (fun v' g11 hq' => ?_) (fun i h' hq' => by obtain ⟨_, _, h⟩ := hq'; cases h)
  obtain ⟨_, hs11, hq'⟩ := hq'
  cases hq'
  have a11 : ∀ e, e < 13 → jfl V 0 (fun e => N (y * 13 + e)) 13 (0 * 13 + e) = N (y * 13 + e) := fun e he => jfl_at _ _ _ he
  have b11 : ∀ s, (s < 0 * 13 ∨ 0 * 13 + 13 ≤ s) → jfl V 0 (fun e => N (y * 13 + e)) 13 s = V s := fun s hc => jfl_off _ _ _ hc
  generalize jfl V 0 (fun e => N (y * 13 + e)) 13 = W11 at hs11 a11 b11
  have eA : jpo W11 0 = rwN N0 (y : Int) := funext fun e => by
    unfold jpo
    by_cases q : e < 13
    · rw [if_pos q, a11 e q]
      exact rwN_at K7.2.1 (by omega) q
    · rw [if_neg q]
      show 0 = if e < 13 then _ else 0
      rw [if_neg q]
  have c1 : ∀ e, e < 13 → (W11 (0 * 13 + e)).natAbs ≤ 10 ^ 18 := fun e he => by
    rw [a11 e he]
    exact K7.sh (r := y) (by omega) he
  iterate 4 refine mj_T.pl rfl rfl rfl rfl ?_
  refine mj_T.call (ins := .invokevirtual 229) rfl rfl (Nat.le_of_ble_eq_true rfl) (Nat.le_of_ble_eq_true rfl) (by simp [mj_recv, rS_f hs11]) rfl (mj_Ok.up (by decide) (jx_raises (D := 0) (rG S7 N B T X) (p := 1) (a := 0) (al := 10 ^ 18) (n := z) (by decide) (by decide) (by decide) (by decide) (by decide) (by decide) c1 (by omega) rp_small3 hs11)) (fun v' g12 hq' => ?_) (fun i h' hq' => by obtain ⟨_, _, _, _, ⟨h, _⟩ | ⟨h, _⟩⟩ := hq' <;> cases h)
  obtain ⟨W12, _, hs12, _, ⟨hq', _, hbig⟩ | ⟨hq', hdg, hW⟩⟩ := hq'
  case' inl =>
    cases hq'
    refine mj_T.if0 (a := 0) rfl ⟨by decide, by decide⟩ (fun hc => ?_) (fun hc => ?_)
    rotate_left
    · simp [jc] at hc
    iterate 2 refine mj_T.pl rfl rfl rfl rfl ?_
    refine mj_T.call (ins := .invokevirtual 198) rfl rfl (Nat.le_of_ble_eq_true rfl) (Nat.le_of_ble_eq_true rfl) (by simp [mj_recv, rS_f hs12]) rfl (mj_Ok.up (by decide) (rp_fails (D := 0) (c := 3) hs12)) (fun v' g13 hq' => ?_) (fun i h' hq' => by obtain ⟨_, _, h⟩ := hq'; cases h)
    obtain ⟨_, hs13, hq'⟩ := hq'
    cases hq'
    have hbad := pw_nofit hbig
    rw [eA] at hbad
    exact mj_T.ret rfl rfl rfl (Or.inl ⟨⟨⟨⟨by omega, by omega⟩, ⟨by omega, by omega⟩⟩, ⟨by omega, by omega⟩⟩, Or.inr ⟨hbad, 0, g13, ⟨by decide, by decide⟩, rfl, ⟨_, N, B, X, W12, hs13, K7.put ⟨by decide, by decide⟩ (by decide) (by decide) (by decide) (by decide) (by decide)⟩⟩⟩)
  cases hq'
  refine mj_T.if0 (a := 1) rfl ⟨by decide, by decide⟩ (fun hc => ?_) (fun hc => ?_)
  · simp [jc] at hc
  iterate 4 refine mj_T.pl rfl rfl rfl rfl ?_
  refine mj_T.call (ins := .invokevirtual 219) rfl rfl (Nat.le_of_ble_eq_true rfl) (Nat.le_of_ble_eq_true rfl) (by simp [mj_recv, rS_f hs12]) rfl (mj_Ok.up (by decide) (rx_puts (D := 0) (r := x) (p := 1) (c := 3) (by omega) (by decide) ⟨by decide, by decide⟩ K7 hs12)) (fun v' h' hq' => ?_) (fun i h' hq' => by rcases hq' with ⟨_, _, _, _, h, _⟩ | ⟨_, _, _, _, h, _⟩ <;> cases h)
  have hres : ∀ j, j < 13 → (fun e => W12 (1 * 13 + e)) j = pw (rwN N0 (y : Int)) z j := fun j hj => by
    rw [← eA]
    exact hW j hj
  rcases hq' with ⟨hs9, z9, h9, hz9, e9, hI9⟩ | ⟨hs9, z9, h9, hz9, e9, hI9⟩
  · cases e9
    refine mj_T.pl rfl rfl rfl rfl ?_
    have hz : ∀ i, 13 ≤ i → pw (rwN N0 (y : Int)) z i = 0 := by
      rw [← eA]
      exact pw_z (d := jdg W11 0 13 - 1) (fun i hi => jpo_zb (by omega)) hdg
    exact mj_T.ret rfl rfl rfl (Or.inl ⟨⟨⟨⟨by omega, by omega⟩, ⟨by omega, by omega⟩⟩, ⟨by omega, by omega⟩⟩, Or.inl ⟨⟨sml_cg hres hs9, hz⟩, _, hres, z9, _, hz9, rfl, hI9⟩⟩)
  · cases e9
    refine mj_T.pl rfl rfl rfl rfl ?_
    exact mj_T.ret rfl rfl rfl (Or.inl ⟨⟨⟨⟨by omega, by omega⟩, ⟨by omega, by omega⟩⟩, ⟨by omega, by omega⟩⟩, Or.inr ⟨fun q => hs9 (sml_cg (fun j hj => (hres j hj).symm) q.1), z9, _, hz9, rfl, hI9⟩⟩)
end RPQ
/-! When two descriptions of what is kept say the same. -/
/-- the same rows, and the same points as far as there are some -/
def eqB (N N' : Nat → Int) : Prop := (∀ j, j < 78 → N j = N' j) ∧ N 78 = N' 78 ∧ ∀ k : Nat, (k : Int) < N 78 → N (79 + k) = N' (79 + k) ∧ N (85 + k) = N' (85 + k)
theorem eqB.rf (N : Nat → Int) : eqB N N := ⟨fun _ _ => rfl, rfl, fun _ _ => ⟨rfl, rfl⟩⟩
theorem eqB.sy {N N' : Nat → Int} (h : eqB N N') : eqB N' N := ⟨fun j hj => (h.1 j hj).symm, h.2.1.symm, fun k hk => ⟨(h.2.2 k (by rw [h.2.1]; exact hk)).1.symm, (h.2.2 k (by rw [h.2.1]; exact hk)).2.symm⟩⟩
theorem eqB.of {N N' : Nat → Int} (h : ∀ j, j < 91 → N j = N' j) (hn : N 78 ≤ 6) : eqB N N' := ⟨fun j hj => h j (by omega), h 78 (by decide), fun k hk => ⟨h _ (by omega), h _ (by omega)⟩⟩
theorem BN.cgN {X : Nat → Nat → Int} {o : Nat} {N N' : Nat → Int} (h : eqB N N') (q : BN X o N) : BN X o N' := by
  refine ⟨fun r hr j hj => (q.1 r hr j hj).trans (h.1 _ (by omega)), q.2.1.trans h.2.1, fun k hk => ?_⟩
  have y := h.2.2 k (by rw [h.2.1]; exact hk)
  have z := q.2.2 k (by rw [h.2.1]; exact hk)
  exact ⟨z.1.trans y.1, z.2.trans y.2⟩
theorem CR.cgN {X : Nat → Nat → Int} {N N' : Nat → Int} {u : Nat} {H H' : Nat → Nat → Int} (h : eqB N N') (hh : ∀ k, k < u → eqB (H k) (H' k)) (c : CR X N u H) : CR X N' u H' := by
  obtain ⟨e, he, h3, h2, b, bh, tl⟩ := c
  exact ⟨e, he, h3, h2, b.cgN h, fun k hk => (bh k hk).cgN (hh k hk), tl⟩
theorem cS.cgN {g h : mj_H} {n u : Nat} {N N' : Nat → Int} {H H' : Nat → Nat → Int} (e : eqB N N') (hh : ∀ k, k < u → eqB (H k) (H' k)) (s : cS g n N u H h) : cS g n N' u H' h := by
  obtain ⟨V, X, m, b, d, c⟩ := s
  exact ⟨V, X, m, b, d, c.cgN e hh⟩
/-- a row that is the same on its places -/
theorem eqB.row {N : Nat → Int} {r : Nat} (hr : r ≤ 5) {w w' : Nat → Int} (h : ∀ j, j < 13 → w j = w' j) : eqB (jfl N r w 13) (jfl N r w' 13) := by
  refine ⟨fun j hj => ?_, ?_, fun k hk => ⟨?_, ?_⟩⟩
  · unfold jfl
    split
    · exact h _ (by omega)
    · rfl
  · rw [jfl_off _ _ _ (by omega), jfl_off _ _ _ (by omega)]
  · rw [jfl_off _ _ _ (by omega), jfl_off _ _ _ (by omega)]
  · rw [jfl_off _ _ _ (by omega), jfl_off _ _ _ (by omega)]
theorem pushH_cg {N N' : Nat → Int} {H H' : Nat → Nat → Int} {u : Nat} (h : eqB N N') (hh : ∀ k, k < u → eqB (H k) (H' k)) : ∀ k, k < u + 1 → eqB (pushH N H k) (pushH N' H' k) := fun k hk => by
  cases k with
  | zero => exact h
  | succ k => exact hh k (by omega)
/-! The reference's primitive part, with its sign. -/
/-- a leading coefficient is above 0 -/
def posL (W : Nat → Int) (p : Nat) : Prop := ∀ d, d < 13 → W (p * 13 + d) ≠ 0 → (∀ e, d < e → e < 13 → W (p * 13 + e) = 0) → 0 < W (p * 13 + d)
theorem posL_d {W : Nat → Int} {p e : Nat} (h : jdg W p 13 = e + 1) (hp : 0 < W (p * 13 + e)) : posL W p := fun d hd h1 h2 => by
  have hl := jdg_le W p 13
  have hne := jdg_ne W p 13 (by omega)
  rw [h, Nat.add_sub_cancel] at hne
  by_cases c : d = e
  · rw [c]
    exact hp
  · by_cases c2 : d < e
    · exact absurd (h2 e c2 (by omega)) hne
    · exact absurd (jdg_zero W p 13 d (by omega) hd) h1
theorem posL_0 {W : Nat → Int} {p : Nat} (h : jdg W p 13 = 0) : posL W p := fun d hd h1 _ => absurd (jdg_zero W p 13 d (by omega) hd) h1
theorem posL_n {W W' : Nat → Int} {p e : Nat} (h : jdg W p 13 = e + 1) (hp : W (p * 13 + e) < 0) (hw : ∀ i, i < 13 → W' (p * 13 + i) = -W (p * 13 + i)) : posL W' p := fun d hd h1 h2 => by
  have hl := jdg_le W p 13
  by_cases c : d = e
  · rw [c, hw e (by omega)]
    omega
  · by_cases c2 : d < e
    · have y := h2 e c2 (by omega)
      rw [hw e (by omega)] at y
      omega
    · rw [hw d hd, jdg_zero W p 13 d (by omega) hd] at h1
      exact absurd rfl h1
section JPX
variable {D : Nat} {hp h : mj_H} {q0 q1 q2 q3 : Nat} {fs : List Value} {V : Nat → Int}
theorem jx_makesPrimitive (G : jG hp q0 q1 q2 q3 fs) {p : Nat} (hpp : p ≤ 49) (hs : jS hp q1 q2 q3 V h) :
    mj_Ok (D + 8) 210 [.ref q0, .int (jn (p : Nat))] h (fun r => ∃ (W : Nat → Int) (h' : mj_H), jS hp q1 q2 q3 W h' ∧ (∃ f : Int, (f = 1 ∨ f = -1) ∧ ∀ e, e < 13 → W (p * 13 + e) = f * (V (p * 13 + e)).tdiv ((jgk V p 13 : Nat) : Int)) ∧ (∀ s, (s < p * 13 ∨ p * 13 + 13 ≤ s) → s ≠ 652 → s ≠ 653 → s ≠ 655 → s ≠ 663 → s ≠ 664 → W s = V s) ∧ posL W p ∧ r = (.inl none, h')) := by
  refine mj_Ok.of (M := mj_m210) rfl rfl rfl ?_
  iterate 2 refine mj_T.pl rfl rfl rfl rfl ?_
  refine mj_T.call (ins := .invokevirtual 136) rfl rfl (Nat.le_of_ble_eq_true rfl) (Nat.le_of_ble_eq_true rfl) (by simp [mj_recv, jS_a G hs]) rfl (jp_shrinks (D := D) G (p := p) hpp hs) (fun v' h1 hq' => ?_) (fun i h' hq' => by obtain ⟨_, _, _, _, _, h⟩ := hq'; cases h)
  obtain ⟨W1, _, hs1, g1, f1, hq'⟩ := hq'
  cases hq'
  iterate 2 refine mj_T.pl rfl rfl rfl rfl ?_
  refine mj_T.call (ins := .invokevirtual 114) rfl rfl (Nat.le_of_ble_eq_true rfl) (Nat.le_of_ble_eq_true rfl) (by simp [mj_recv, jS_a G hs1]) rfl (jp_degreeOf (D := D + 5) G (p := p) (by omega) hs1) (fun v' h' hq' => ?_) (fun i h' hq' => by cases hq')
  cases hq'
  have hle := jdg_le W1 p 13
  generalize hdd : jdg W1 p 13 = dd at hle
  iterate 2 refine mj_T.pl rfl rfl rfl rfl ?_
  refine mj_T.if0 rfl ⟨by omega, by omega⟩ (fun hc => ?_) (fun hc => ?_)
  · simp only [jc, decide_eq_true_eq] at hc
    exact mj_T.ret rfl rfl rfl ⟨W1, h1, hs1, ⟨1, Or.inl rfl, fun e he => by rw [g1 e he, Int.one_mul]⟩, f1, posL_0 (by omega), rfl⟩
  · simp only [jc, decide_eq_false_iff_not] at hc
    obtain ⟨e, rfl⟩ : ∃ e, dd = e + 1 := ⟨dd - 1, by omega⟩
    rw [show ((e + 1 : Nat) : Int) - 1 = (e : Int) by omega]
    iterate 3 refine mj_T.pl rfl rfl rfl rfl ?_
    refine mj_T.call (ins := .invokestatic 104) rfl rfl (Nat.le_of_ble_eq_true rfl) (Nat.le_of_ble_eq_true rfl) rfl rfl (jq_slot (D := D + 6) (p := p) (i := e)) (fun v' h' hq' => ?_) (fun i h' hq' => by cases hq')
    cases hq'
    refine mj_T.call (ins := .invokevirtual 68) rfl rfl (Nat.le_of_ble_eq_true rfl) (Nat.le_of_ble_eq_true rfl) (by simp [mj_recv, jS_a G hs1]) rfl (jS_sign (D := D + 6) G (s := p * 13 + e) (by omega) hs1) (fun v' h' hq' => ?_) (fun i h' hq' => by cases hq')
    cases hq'
    have hsr := jsg_range (W1 (p * 13 + e))
    refine mj_T.if0 rfl ⟨by omega, by omega⟩ (fun hc2 => ?_) (fun hc2 => ?_)
    · simp only [jc, decide_eq_true_eq] at hc2
      have hne := jdg_ne W1 p 13 (by omega)
      rw [hdd, Nat.add_sub_cancel] at hne
      exact mj_T.ret rfl rfl rfl ⟨W1, h1, hs1, ⟨1, Or.inl rfl, fun e he => by rw [g1 e he, Int.one_mul]⟩, f1, posL_d hdd (by
        rcases Int.lt_trichotomy (W1 (p * 13 + e)) 0 with y | y | y
        · rw [jsg_neg y] at hc2
          exact absurd hc2 (by decide)
        · exact absurd y hne
        · exact y), rfl⟩
    · iterate 2 refine mj_T.pl rfl rfl rfl rfl ?_
      refine mj_T.call (ins := .invokevirtual 139) rfl rfl (Nat.le_of_ble_eq_true rfl) (Nat.le_of_ble_eq_true rfl) (by simp [mj_recv, jS_a G hs1]) rfl (jp_negates (D := D + 4) G (p := p) (by omega) hs1) (fun v' h2 hq' => ?_) (fun i h' hq' => by obtain ⟨_, _, h⟩ := hq'; cases h)
      obtain ⟨_, hs2, hq'⟩ := hq'
      cases hq'
      refine mj_T.ret rfl rfl rfl ⟨_, h2, hs2, ⟨-1, Or.inr rfl, fun e' he => ?_⟩, fun s a b c d e f => ?_, posL_n (W := W1) hdd (by
        simp only [jc, Bool.not_eq_false', decide_eq_true_eq] at hc2
        rcases Int.lt_trichotomy (W1 (p * 13 + e)) 0 with y | y | y
        · exact y
        · exact absurd hc2 (by rw [y]; decide)
        · exact absurd hc2 (by rw [jsg_pos y]; decide)) (fun i hi => jfl_at _ _ _ hi), rfl⟩
      · rw [jfl_at _ _ _ he, g1 e' he]
        omega
      · rw [jfl_off _ _ _ a]
        exact f1 s a b c d e f
end JPX
/-! The reference, exactly: primitive. -/
theorem jgk_mx {V : Nat → Int} {p d : Nat} (h : ∀ e, e < 13 → d ∣ (V (p * 13 + e)).natAbs) : ∀ m, d ∣ jgk V p m
  | 0 => Nat.dvd_zero d
  | m + 1 => Nat.dvd_gcd (jgk_mx h m) (h (12 - m) (by omega))
theorem jgk_cgd {V f : Nat → Int} {p : Nat} (h : ∀ e, e < 13 → V (p * 13 + e) = f e) : jgk V p 13 = cgd f 13 := Nat.dvd_antisymm (cgd_max f _ 13 (fun i hi => by rw [← h i hi]; exact jgk_dvd V p 13 i (Nat.le_refl _) (by omega) hi)) (jgk_mx (fun e he => by rw [h e he]; exact cgd_dvd f 13 e he) 13)
theorem ppr_of {R W : Nat → Int} {f : Int} (hf : f = 1 ∨ f = -1) (hw : ∀ e, e < 13 → W e = f * (R e).tdiv ((cgd R 13 : Nat) : Int)) (hp : ∀ d, d < 13 → W d ≠ 0 → (∀ e, d < e → e < 13 → W e = 0) → 0 < W d) : ∀ e, e < 13 → W e = ppr R e := fun e he => by
  have hle := fdg_le R 13
  have hpp : ppr R e = (R e).tdiv (sgc R) := if_pos he
  rw [hpp, hw e he]
  by_cases h0 : fdg R 13 = 0
  · rw [fdg_zero R 13 e (by omega) he, Int.zero_tdiv, Int.zero_tdiv, Int.mul_zero]
  · obtain ⟨d, hd⟩ : ∃ d, fdg R 13 = d + 1 := ⟨fdg R 13 - 1, by omega⟩
    have hne := fdg_ne R 13 (by omega)
    rw [hd, Nat.add_sub_cancel] at hne
    have hc : (cgd R 13 : Nat) ≠ 0 := fun y => hne (cgd_0 y d (by omega))
    have hdv : ((cgd R 13 : Nat) : Int) ∣ R d := Int.natAbs_dvd_natAbs.mp (by rw [Int.natAbs_natCast]; exact cgd_dvd R 13 d (by omega))
    obtain ⟨q, hq⟩ := hdv
    have hq2 : (R d).tdiv ((cgd R 13 : Nat) : Int) = q := by
      rw [hq]
      exact Int.mul_tdiv_cancel_left _ (by omega)
    have hq0 : q ≠ 0 := fun y => hne (by rw [hq, y, Int.mul_zero])
    have hwd : W d = f * q := by rw [hw d (by omega), hq2]
    have hpos := hp d (by omega) (by rw [hwd]; rcases hf with rfl | rfl <;> omega) (fun e' h1 h2 => by
      rw [hw e' h2, fdg_zero R 13 e' (by omega) h2, Int.zero_tdiv, Int.mul_zero])
    rw [hwd] at hpos
    have hcp : (0 : Int) < ((cgd R 13 : Nat) : Int) := by omega
    unfold sgc
    rw [hd, Nat.add_sub_cancel]
    by_cases hn : R d < 0
    · rw [if_pos ⟨by omega, hn⟩, Int.tdiv_neg]
      have hqn : q < 0 := by
        rcases Int.lt_trichotomy q 0 with y | y | y
        · exact y
        · exact absurd y hq0
        · have := Int.mul_pos hcp y
          omega
      rcases hf with rfl | rfl
      · omega
      · omega
    · rw [if_neg (fun y => hn y.2)]
      have hqp : 0 < q := by
        rcases Int.lt_trichotomy q 0 with y | y | y
        · have := Int.mul_neg_of_pos_of_neg hcp y
          omega
        · exact absurd y hq0
        · exact y
      rcases hf with rfl | rfl
      · omega
      · omega
section RPV
variable {h : mj_H} {tm er : Int} {T : Nat → Int} {N0 : Nat → Int} {u0 : Nat} {H : Nat → Nat → Int}
theorem rx_primitive {x y : Int} (hx : jr x) (hy : jr y) (hI : jIx N0 u0 H tm er T h) : mj_Ok 40 239 [.ref 0, .int (jn x), .int (jn y)] h (RP tm er T N0 u0 H ((0 ≤ x ∧ x ≤ 5) ∧ (0 ≤ y ∧ y ≤ 5)) (ppr (rwN N0 y)) x) := by
  refine mj_Ok.of (M := mj_m239) rfl rfl rfl ?_
  obtain ⟨S, N, B, X, V, hs, K⟩ := hI
  iterate 2 refine mj_T.pl rfl rfl rfl rfl ?_
  refine rT_put (v := 0) hs rfl rfl (by decide) rfl (fun g18 hs18 => ?_)
  have K18 := K.put (k := 3) (v := 0) ⟨by decide, by decide⟩ (by decide) (by decide) (by decide) (by decide) (by decide)
  generalize jvu S 3 0 = S18 at hs18 K18
  iterate 3 refine mj_T.pl rfl rfl rfl rfl ?_
  refine mj_T.call (ins := .invokestatic 210) rfl rfl (Nat.le_of_ble_eq_true rfl) (Nat.le_of_ble_eq_true rfl) rfl rfl (mj_Ok.up (by decide) (rx_areRegisters (D := 0) hx hy hy)) (fun v' h' hq' => ?_) (fun i h' hq' => by rcases hq' with ⟨_, _, h⟩ | ⟨_, h⟩ <;> cases h)
  rcases hq' with ⟨⟨x1, x2⟩, ⟨y3, y4, y5, y6⟩, hq'⟩ | ⟨hno, hq'⟩
  case' inr =>
    cases hq'
    refine mj_T.if0 (a := 0) rfl ⟨by decide, by decide⟩ (fun hc => ?_) (fun hc => ?_)
    · simp [jc] at hc
    iterate 2 refine mj_T.pl rfl rfl rfl rfl ?_
    refine mj_T.call (ins := .invokevirtual 198) rfl rfl (Nat.le_of_ble_eq_true rfl) (Nat.le_of_ble_eq_true rfl) (by simp [mj_recv, rS_f hs18]) rfl (mj_Ok.up (by decide) (rp_fails (D := 0) (c := 1) hs18)) (fun v' g19 hq' => ?_) (fun i h' hq' => by obtain ⟨_, _, h⟩ := hq'; cases h)
    obtain ⟨_, hs19, hq'⟩ := hq'
    cases hq'
    exact mj_T.ret rfl rfl rfl (Or.inr ⟨fun q => hno ⟨q.1, q.2, q.2⟩, 0, g19, ⟨by decide, by decide⟩, rfl, ⟨_, N, B, X, V, hs19, K18.put ⟨by decide, by decide⟩ (by decide) (by decide) (by decide) (by decide) (by decide)⟩⟩)
  cases hq'
  refine mj_T.if0 (a := 1) rfl ⟨by decide, by decide⟩ (fun hc => ?_) (fun hc => ?_)
  rotate_left
  · simp [jc] at hc
  obtain ⟨x, rfl⟩ := Int.eq_ofNat_of_zero_le x1
  obtain ⟨y, rfl⟩ := Int.eq_ofNat_of_zero_le y3
  iterate 3 refine mj_T.pl rfl rfl rfl rfl ?_
  refine mj_T.call (ins := .invokevirtual 213) rfl rfl (Nat.le_of_ble_eq_true rfl) (Nat.le_of_ble_eq_true rfl) (by simp [mj_recv, rS_f hs18]) rfl (mj_Ok.up (by decide) (rp_loads (D := 0) (p := 0) (r := y) (by decide) (by omega) K18.nR hs18)) (fun v' g20 hq' => ?_) (fun i h' hq' => by obtain ⟨_, _, h⟩ := hq'; cases h)
  obtain ⟨_, hs20, hq'⟩ := hq'
  cases hq'
  have a20 : ∀ e, e < 13 → jfl V 0 (fun e => N (y * 13 + e)) 13 (0 * 13 + e) = N (y * 13 + e) := fun e he => jfl_at _ _ _ he
  have b20 : ∀ s, (s < 0 * 13 ∨ 0 * 13 + 13 ≤ s) → jfl V 0 (fun e => N (y * 13 + e)) 13 s = V s := fun s hc => jfl_off _ _ _ hc
  generalize jfl V 0 (fun e => N (y * 13 + e)) 13 = W20 at hs20 a20 b20
  iterate 2 refine mj_T.pl rfl rfl rfl rfl ?_
  refine mj_T.call (ins := .invokevirtual 142) rfl rfl (Nat.le_of_ble_eq_true rfl) (Nat.le_of_ble_eq_true rfl) (by simp [mj_recv, rS_f hs20]) rfl (mj_Ok.up (by decide) (jx_makesPrimitive (D := 0) (rG S18 N B T X) (p := 0) (by decide) hs20)) (fun v' g21 hq' => ?_) (fun i h' hq' => by obtain ⟨_, _, _, _, _, _, h⟩ := hq'; cases h)
  obtain ⟨W21, _, hs21, ⟨f, hf, hW⟩, _, hP, hq'⟩ := hq'
  cases hq'
  iterate 4 refine mj_T.pl rfl rfl rfl rfl ?_
  refine mj_T.call (ins := .invokevirtual 219) rfl rfl (Nat.le_of_ble_eq_true rfl) (Nat.le_of_ble_eq_true rfl) (by simp [mj_recv, rS_f hs21]) rfl (mj_Ok.up (by decide) (rx_puts (D := 0) (r := x) (p := 0) (c := 2) (by omega) (by decide) ⟨by decide, by decide⟩ K18 hs21)) (fun v' h' hq' => ?_) (fun i h' hq' => by rcases hq' with ⟨_, _, _, _, h, _⟩ | ⟨_, _, _, _, h, _⟩ <;> cases h)
  have hR : ∀ e, e < 13 → W20 (0 * 13 + e) = rwN N0 (y : Int) e := fun e he => by
    rw [a20 e he]
    exact rwN_at K18.2.1 (by omega) he
  have hRs : sml (rwN N0 (y : Int)) := fun j hj => by
    rw [← rwN_at K18.2.1 (r := y) (by omega) hj]
    have := K18.1.1.1 (y * 13 + j) (by omega)
    omega
  have hres : ∀ j, j < 13 → (fun e => W21 (0 * 13 + e)) j = ppr (rwN N0 (y : Int)) j := ppr_of hf (fun e he => by
    show W21 (0 * 13 + e) = _
    rw [hW e he, hR e he, jgk_cgd hR]) (fun d hd h1 h2 => hP d hd h1 h2)
  have hfit : fit13 (ppr (rwN N0 (y : Int))) := ⟨fun j hj => ppr_sml hRs j, fun i hi => if_neg (by omega)⟩
  rcases hq' with ⟨hs9, z9, h9, hz9, e9, hI9⟩ | ⟨hs9, z9, h9, hz9, e9, hI9⟩
  · cases e9
    exact mj_T.ret rfl rfl rfl (Or.inl ⟨⟨⟨by omega, by omega⟩, ⟨by omega, by omega⟩⟩, Or.inl ⟨hfit, _, hres, z9, _, hz9, rfl, hI9⟩⟩)
  · exact absurd (sml_cg (fun j hj => (hres j hj).symm) hfit.1) hs9
end RPV
/-! The reference, exactly: substitute. -/
theorem hw_low {A B : pz_P} {d : Nat} (hA : ∀ i, d ≤ i → A i = 0) : ∀ k, k + d ≤ 13 → ∀ i, hw A B k i = 0
  | 0, _, _ => rfl
  | k + 1, h, i => by
    show pz_mul (hw A B k) B i + (if i = 0 then A (12 - k) else 0) = 0
    rw [show pz_mul (hw A B k) B i = 0 from pz_c_zeroL i _ _ (hw_low hA k (by omega)), hA _ (by omega)]
    split <;> rfl
theorem hw_deg {A B : pz_P} {d b : Nat} (hA : ∀ i, d ≤ i → A i = 0) (hB : ∀ i, b < i → B i = 0) (hd : d ≤ 13) : ∀ s, s ≤ d → ∀ i, (s - 1) * b < i → hw A B (13 - d + s) i = 0
  | 0, _, i, _ => hw_low hA _ (by omega) i
  | s + 1, hs, i, hi => by
    rw [Nat.add_sub_cancel] at hi
    show hw A B (13 - d + s + 1) i = 0
    rw [hw_rest _ _ _ _ (by omega)]
    have ih := hw_deg hA hB hd s (by omega)
    cases s with
    | zero => exact pz_c_zeroL i _ _ (hw_low hA _ (by omega))
    | succ t =>
      rw [Nat.add_sub_cancel] at ih
      rw [Nat.succ_mul] at hi
      exact pz_lt.mul (a := t * b + 1) (b := b + 1) (c := t * b + b + 1) (fun j hj => ih j (by omega)) (fun j hj => hB j (by omega)) (by omega) i (by omega)
theorem hw_lead {A B : pz_P} {d b : Nat} (hA : ∀ i, d ≤ i → A i = 0) (hB : ∀ i, b < i → B i = 0) (hd : d ≤ 13) (hb : 1 ≤ b) : ∀ s, s + 1 ≤ d → hw A B (13 - d + (s + 1)) (s * b) = A (d - 1) * B b ^ s
  | 0, h => by
    show pz_mul (hw A B (13 - d)) B (0 * b) + (if 0 * b = 0 then A (12 - (13 - d)) else 0) = _
    rw [Nat.zero_mul, if_pos rfl, show pz_mul (hw A B (13 - d)) B 0 = 0 from pz_c_zeroL 0 _ _ (hw_low hA _ (by omega)), show 12 - (13 - d) = d - 1 by omega, Int.pow_zero, Int.mul_one, Int.zero_add]
  | s + 1, h => by
    have ih := hw_lead hA hB hd hb s (by omega)
    have hg := hw_deg hA hB hd (s + 1) (by omega)
    rw [Nat.add_sub_cancel] at hg
    rw [Nat.succ_mul]
    show hw A B (13 - d + (s + 1) + 1) (s * b + b) = _
    rw [hw_rest _ _ _ _ (by omega)]
    refine (pz_c_lead (s * b) (hw A B (13 - d + (s + 1))) B b (fun j hj => hg j (by omega)) (fun j hj => hB j (by omega))).trans ?_
    rw [ih, Int.pow_succ, Int.mul_assoc]
theorem hw_nofit {V : Nat → Int} (h : 12 < (jdg V 0 13 - 1) * (jdg V 1 13 - 1)) : ¬ fit13 (hw (jpo V 0) (jpo V 1) 13) := fun q => by
  have h1 : 1 ≤ jdg V 0 13 - 1 := by
    rcases Nat.eq_zero_or_pos (jdg V 0 13 - 1) with y | y
    · rw [y, Nat.zero_mul] at h
      omega
    · omega
  have h2 : 1 ≤ jdg V 1 13 - 1 := by
    rcases Nat.eq_zero_or_pos (jdg V 1 13 - 1) with y | y
    · rw [y, Nat.mul_zero] at h
      omega
    · omega
  have k0 := jdg_ne V 0 13 (by omega)
  have k1 := jdg_ne V 1 13 (by omega)
  have hd0 := jdg_le V 0 13
  have hd1 := jdg_le V 1 13
  have e := hw_lead (A := jpo V 0) (B := jpo V 1) (d := jdg V 0 13) (b := jdg V 1 13 - 1) (fun i hi => jpo_zb hi) (fun i hi => jpo_zb (by omega)) hd0 h2 (jdg V 0 13 - 1) (by omega)
  rw [show 13 - jdg V 0 13 + (jdg V 0 13 - 1 + 1) = 13 by omega, q.2 _ (by omega), jpo_at (by omega), jpo_at (by omega)] at e
  exact Int.mul_ne_zero k0 (Int.pow_ne_zero k1) e.symm
theorem hw_fits {V : Nat → Int} (h : (jdg V 0 13 - 1) * (jdg V 1 13 - 1) ≤ 12) : ∀ i, 13 ≤ i → hw (jpo V 0) (jpo V 1) 13 i = 0 := fun i hi => by
  have hd0 := jdg_le V 0 13
  have e := hw_deg (A := jpo V 0) (B := jpo V 1) (d := jdg V 0 13) (b := jdg V 1 13 - 1) (fun i hi => jpo_zb hi) (fun i hi => jpo_zb (by omega)) hd0 (jdg V 0 13) (Nat.le_refl _) i (by omega)
  rwa [show 13 - jdg V 0 13 + jdg V 0 13 = 13 by omega] at e
section RSU
variable {h : mj_H} {tm er : Int} {T : Nat → Int} {N0 : Nat → Int} {u0 : Nat} {H : Nat → Nat → Int}
theorem rx_sb_loop {S N B X V0 : Nat → Int} {x : Nat} {y z : Int} {reg : Prop} (hreg : reg) {P : pz_P} (hP : P = hw (jpo V0 0) (jpo V0 1) 13) (hx : x ≤ 5) (K : jKx N0 u0 H tm er S N B T) (hA : ∀ e, e < 13 → (V0 (0 * 13 + e)).natAbs ≤ 10 ^ 18) (hB : ∀ e, e < 13 → (V0 (1 * 13 + e)).natAbs ≤ 10 ^ 18) (hdeg : (jdg V0 0 13 - 1) * (jdg V0 1 13 - 1) ≤ 12) :
    ∀ (m s : Nat) (V : Nat → Int) (h : mj_H), m + s = jdg V0 0 13 → rS S N B T X V h → (∀ j, j < 26 → V j = V0 j) → (∀ e, e < 13 → (V (2 * 13 + e)).natAbs ≤ (170 * 10 ^ 18) ^ s) → ((s = 0 ∧ jdg V 2 13 = 0) ∨ (1 ≤ s ∧ jdg V 2 13 ≤ (s - 1) * (jdg V0 1 13 - 1) + 1)) → (∀ e, e < 13 → V (2 * 13 + e) = hw (jpo V0 0) (jpo V0 1) (13 - m) e) → mj_T 39 mj_m236 74 [some (.ref 0), some (.int (jn (x : Int))), some (.int (jn y)), some (.int (jn z)), some (.int (jn ((m : Int) - 1)))] [] h (RP tm er T N0 u0 H reg P (x : Int)) := by
  have hl0 := jdg_le V0 0 13
  have hl1 := jdg_le V0 1 13
  intro m
  induction m with
  | zero =>
    intro s V h hm hs f c1 c2 c3
    refine mj_T.pl rfl rfl rfl rfl ?_
    refine mj_T.if0 (a := ((0 : Nat) : Int) - 1) rfl ⟨by decide, by decide⟩ (fun hc => ?_) (fun hc => ?_)
    rotate_left
    · simp [jc] at hc
    iterate 4 refine mj_T.pl rfl rfl rfl rfl ?_
    refine mj_T.call (ins := .invokevirtual 219) rfl rfl (Nat.le_of_ble_eq_true rfl) (Nat.le_of_ble_eq_true rfl) (by simp [mj_recv, rS_f hs]) rfl (mj_Ok.up (by decide) (rx_puts (D := 0) (r := x) (p := 2) (c := 2) (by omega) (by decide) ⟨by decide, by decide⟩ K hs)) (fun v' h' hq' => ?_) (fun i h' hq' => by rcases hq' with ⟨_, _, _, _, h, _⟩ | ⟨_, _, _, _, h, _⟩ <;> cases h)
    have hres : ∀ j, j < 13 → (fun e => V (2 * 13 + e)) j = P j := fun j hj => by
      rw [hP]
      exact c3 j hj
    have hz : ∀ i, 13 ≤ i → P i = 0 := by
      rw [hP]
      exact hw_fits hdeg
    rcases hq' with ⟨hs9, z9, h9, hz9, e9, hI9⟩ | ⟨hs9, z9, h9, hz9, e9, hI9⟩
    · cases e9
      exact mj_T.ret rfl rfl rfl (Or.inl ⟨hreg, Or.inl ⟨⟨sml_cg hres hs9, hz⟩, _, hres, z9, _, hz9, rfl, hI9⟩⟩)
    · cases e9
      exact mj_T.ret rfl rfl rfl (Or.inl ⟨hreg, Or.inr ⟨fun q => hs9 (sml_cg (fun j hj => (hres j hj).symm) q.1), z9, _, hz9, rfl, hI9⟩⟩)
  | succ m ih =>
    intro s V h hm hs f c1 c2 c3
    refine mj_T.pl rfl rfl rfl rfl ?_
    refine mj_T.if0 (a := ((m + 1 : Nat) : Int) - 1) rfl ⟨by omega, by omega⟩ (fun hc => ?_) (fun hc => ?_)
    · simp only [jc, decide_eq_true_eq] at hc
      omega
    rw [show ((m + 1 : Nat) : Int) - 1 = (m : Int) by omega]
    have e1 : jdg V 1 13 = jdg V0 1 13 := jdg_congr 13 fun e he => f _ (by omega)
    have hmul : (s - 1) * (jdg V0 1 13 - 1) + (jdg V0 1 13 - 1) = s * (jdg V0 1 13 - 1) ∨ s = 0 := by
      rcases Nat.eq_zero_or_pos s with q | q
      · exact Or.inr q
      · refine Or.inl ?_
        obtain ⟨t, rfl⟩ : ∃ t, s = t + 1 := ⟨s - 1, by omega⟩
        rw [Nat.add_sub_cancel, Nat.succ_mul]
    have hle : s * (jdg V0 1 13 - 1) ≤ 12 := Nat.le_trans (Nat.mul_le_mul_right _ (by omega)) hdeg
    have hpw : (170 * 10 ^ 18) ^ s ≤ (170 * 10 ^ 18) ^ 13 := Nat.pow_le_pow_right (by decide) (by omega)
    have hp1 : 1 ≤ (170 * 10 ^ 18) ^ s := Nat.pow_pos (by decide)
    have h6 := rp_small6
    have hps : (170 * 10 ^ 18) ^ (s + 1) = (170 * 10 ^ 18) ^ s * (170 * 10 ^ 18) := Nat.pow_succ _ _
    obtain ⟨al, ha1, ha2, ha3⟩ : ∃ al : Nat, (∀ e, e < 13 → (V (2 * 13 + e)).natAbs ≤ al) ∧ al ≤ (170 * 10 ^ 18) ^ s ∧ (s = 0 → al = 0) := by
      rcases c2 with ⟨q, q2⟩ | ⟨q, _⟩
      · exact ⟨0, fun e he => by rw [jdg_zero V 2 13 e (by omega) he]; exact Nat.zero_le _, Nat.zero_le _, fun _ => rfl⟩
      · exact ⟨_, c1, Nat.le_refl _, fun q2 => absurd q2 (by omega)⟩
    iterate 4 refine mj_T.pl rfl rfl rfl rfl ?_
    refine mj_T.call (ins := .invokevirtual 121) rfl rfl (Nat.le_of_ble_eq_true rfl) (Nat.le_of_ble_eq_true rfl) (by simp [mj_recv, rS_f hs]) rfl (mj_Ok.up (by decide) (jx_multipliesPoly (D := 0) (V := V) (rG S N B T X) (to := 7) (a := 2) (b := 1) (by decide) (by decide) (by decide) (by decide) (by decide) (al := al) (be := 10 ^ 18) ha1 (fun e he => by rw [f _ (by omega)]; exact hB e he) (by rw [e1]; omega) (by omega) hs)) (fun v' g1 hq' => ?_) (fun i h' hq' => by obtain ⟨_, _, _, _, _, _, _, h⟩ := hq'; cases h)
    obtain ⟨W1, _, hs1, d1, d2, d3, hW, hq'⟩ := hq'
    cases hq'
    iterate 3 refine mj_T.pl rfl rfl rfl rfl ?_
    refine mj_T.call (ins := .invokevirtual 124) rfl rfl (Nat.le_of_ble_eq_true rfl) (Nat.le_of_ble_eq_true rfl) (by simp [mj_recv, rS_f hs1]) rfl (mj_Ok.up (by decide) (jp_copiesPoly (D := 0) (V := W1) (rG S N B T X) (p := 2) (q := 7) (by decide) (by decide) (by decide) hs1)) (fun v' g2 hq' => ?_) (fun i h' hq' => by obtain ⟨_, _, h⟩ := hq'; cases h)
    obtain ⟨_, hs2, hq'⟩ := hq'
    cases hq'
    have q1 : ∀ e, e < 13 → jfl W1 2 (fun e => W1 (7 * 13 + e)) 13 (2 * 13 + e) = W1 (7 * 13 + e) := fun e he => jfl_at _ _ _ he
    have q2 : ∀ s, (s < 26 ∨ 39 ≤ s) → jfl W1 2 (fun e => W1 (7 * 13 + e)) 13 s = W1 s := fun s hc => jfl_off _ _ _ (by omega)
    generalize jfl W1 2 (fun e => W1 (7 * 13 + e)) 13 = W2 at hs2 q1 q2
    iterate 3 refine mj_T.pl rfl rfl rfl rfl ?_
    refine mj_T.call (ins := .invokestatic 104) rfl rfl (Nat.le_of_ble_eq_true rfl) (Nat.le_of_ble_eq_true rfl) rfl rfl (mj_Ok.up (by decide) (jq_slot (D := 0) (p := 2) (i := 0))) (fun v' h' hq' => ?_) (fun i h' hq' => by cases hq')
    cases hq'
    iterate 2 refine mj_T.pl rfl rfl rfl rfl ?_
    refine mj_T.call (ins := .invokestatic 104) rfl rfl (Nat.le_of_ble_eq_true rfl) (Nat.le_of_ble_eq_true rfl) rfl rfl (mj_Ok.up (by decide) (jq_slot (D := 0) (p := 2) (i := 0))) (fun v' h' hq' => ?_) (fun i h' hq' => by cases hq')
    cases hq'
    iterate 2 refine mj_T.pl rfl rfl rfl rfl ?_
    refine mj_T.call (ins := .invokestatic 104) rfl rfl (Nat.le_of_ble_eq_true rfl) (Nat.le_of_ble_eq_true rfl) rfl rfl (mj_Ok.up (by decide) (jq_slot (D := 0) (p := 0) (i := m))) (fun v' h' hq' => ?_) (fun i h' hq' => by cases hq')
    cases hq'
    refine mj_T.pl rfl rfl rfl rfl ?_
    have va : W2 (0 * 13 + m) = V0 (0 * 13 + m) := by rw [q2 _ (by omega), d1 _ (by omega) (by omega), f _ (by omega)]
    have v1 : (W2 (2 * 13 + 0) + 1 * W2 (0 * 13 + m)).natAbs ≤ (170 * 10 ^ 18) ^ (s + 1) := by
      rw [va, q1 0 (by decide), Int.one_mul]
      have k1 := d2 0 (by decide)
      have k2 := hA m (by omega)
      have k3 := Int.natAbs_add_le (W1 (7 * 13 + 0)) (V0 (0 * 13 + m))
      omega
    refine mj_T.call (ins := .invokevirtual 107) rfl rfl (Nat.le_of_ble_eq_true rfl) (Nat.le_of_ble_eq_true rfl) (by simp [mj_recv, rS_f hs2]) rfl (mj_Ok.up (by decide) (jS_adds (D := 0) (V := W2) (rG S N B T X) (to := 2 * 13 + 0) (a := 2 * 13 + 0) (b := 0 * 13 + m) (f := 1) (by decide) (by decide) (by omega) (Or.inl rfl) (jnl_of_lt v1 (by omega)) hs2)) (fun v' g3 hq' => ?_) (fun i h' hq' => by obtain ⟨_, _, h⟩ := hq'; cases h)
    obtain ⟨_, hs3, hq'⟩ := hq'
    cases hq'
    have u1 : jvu W2 (2 * 13 + 0) (W2 (2 * 13 + 0) + 1 * W2 (0 * 13 + m)) (2 * 13 + 0) = W2 (2 * 13 + 0) + 1 * W2 (0 * 13 + m) := jvu_at _ _ _
    have u2 : ∀ s, s ≠ 2 * 13 + 0 → jvu W2 (2 * 13 + 0) (W2 (2 * 13 + 0) + 1 * W2 (0 * 13 + m)) s = W2 s := fun s hne => jvu_ne _ _ _ hne
    generalize jvu W2 (2 * 13 + 0) (W2 (2 * 13 + 0) + 1 * W2 (0 * 13 + m)) = W3 at hs3 u1 u2
    refine mj_T.iinc (a := (m : Int)) rfl rfl ?_
    refine mj_T.pl rfl rfl rfl rfl ?_
    refine ih (s + 1) W3 g3 (by omega) hs3 (fun j hj => by rw [u2 _ (by omega), q2 _ (by omega), d1 _ (by omega) (by omega), f _ hj]) (fun e he => ?_) (Or.inr ⟨by omega, ?_⟩) (fun e he => ?_)
    · by_cases e0 : e = 0
      · subst e0
        rw [u1]
        exact v1
      · rw [u2 _ (by omega), q1 e he]
        have := d2 e he
        omega
    · have j1 : jdg W1 7 13 ≤ jdg V 2 13 + jdg V 1 13 - 1 := d3
      refine jdg_of_zero fun e x1 x2 => ?_
      rw [Nat.add_sub_cancel] at x1
      rw [u2 _ (by omega), q1 e x2]
      by_cases q : s = 0
      · have := d2 e x2
        rw [ha3 q, Nat.zero_mul, Nat.mul_zero] at this
        omega
      · exact jdg_zero W1 7 13 e (by omega) x2
    · have hk : 13 - m = 13 - (m + 1) + 1 := by omega
      have hks : 13 - (m + 1) = 13 - jdg V0 0 13 + s := by omega
      have hlt : ∀ i : Nat, ¬ i < 13 → (s - 1) * (jdg V0 1 13 - 1) < i := fun i q => by
        rcases hmul with q2 | q2
        · omega
        · rw [q2, Nat.zero_sub, Nat.zero_mul]
          omega
      have eV : jpo V 2 = hw (jpo V0 0) (jpo V0 1) (13 - (m + 1)) := funext fun i => by
        by_cases q : i < 13
        · rw [jpo_at q]
          exact c3 i q
        · have hdg := hw_deg (A := jpo V0 0) (B := jpo V0 1) (d := jdg V0 0 13) (b := jdg V0 1 13 - 1) (fun i hi => jpo_zb hi) (fun i hi => jpo_zb (by omega)) (jdg_le V0 0 13) s (by omega) i (hlt i q)
          rw [hks, hdg]
          exact jpo_zb (by have := jdg_le V 2 13; omega)
      have eB : jpo V 1 = jpo V0 1 := funext fun i => by
        by_cases q : i < 13
        · rw [jpo_at q, jpo_at q, f _ (by omega)]
        · have x1 := jdg_le V 1 13
          have x2 := jdg_le V0 1 13
          rw [jpo_zb (by omega), jpo_zb (by omega)]
      have hm9 := (hW e he).trans (prs_mul V 2 1 e)
      rw [eV, eB] at hm9
      rw [hk]
      by_cases e0 : e = 0
      · subst e0
        rw [u1, q1 0 (by decide), hm9, va, Int.one_mul]
        show _ = pz_mul _ _ 0 + (if 0 = 0 then jpo V0 0 (12 - (13 - (m + 1))) else 0)
        rw [if_pos rfl, show 12 - (13 - (m + 1)) = m by omega, jpo_at (by omega)]
      · rw [u2 _ (by omega), q1 e he, hm9, hw_rest _ _ _ _ (by omega)]
theorem rx_substitute {x y z : Int} (hx : jr x) (hy : jr y) (hz : jr z) (hI : jIx N0 u0 H tm er T h) : mj_Ok 40 236 [.ref 0, .int (jn x), .int (jn y), .int (jn z)] h (RP tm er T N0 u0 H ((0 ≤ x ∧ x ≤ 5) ∧ (0 ≤ y ∧ y ≤ 5) ∧ (0 ≤ z ∧ z ≤ 5)) (hw (rwN N0 y) (rwN N0 z) 13) x) := by
  refine mj_Ok.of (M := mj_m236) rfl rfl rfl ?_
  obtain ⟨S, N, B, X, V, hs, K⟩ := hI
  iterate 2 refine mj_T.pl rfl rfl rfl rfl ?_
  refine rT_put (v := 0) hs rfl rfl (by decide) rfl (fun g4 hs4 => ?_)
  have K4 := K.put (k := 3) (v := 0) ⟨by decide, by decide⟩ (by decide) (by decide) (by decide) (by decide) (by decide)
  generalize jvu S 3 0 = S4 at hs4 K4
  iterate 3 refine mj_T.pl rfl rfl rfl rfl ?_
  refine mj_T.call (ins := .invokestatic 210) rfl rfl (Nat.le_of_ble_eq_true rfl) (Nat.le_of_ble_eq_true rfl) rfl rfl (mj_Ok.up (by decide) (rx_areRegisters (D := 0) hx hy hz)) (fun v' h' hq' => ?_) (fun i h' hq' => by rcases hq' with ⟨_, _, h⟩ | ⟨_, h⟩ <;> cases h)
  rcases hq' with ⟨⟨x1, x2⟩, ⟨y3, y4, z5, z6⟩, hq'⟩ | ⟨hno, hq'⟩
  case' inr =>
    cases hq'
    refine mj_T.if0 (a := 0) rfl ⟨by decide, by decide⟩ (fun hc => ?_) (fun hc => ?_)
    · simp [jc] at hc
    iterate 2 refine mj_T.pl rfl rfl rfl rfl ?_
    refine mj_T.call (ins := .invokevirtual 198) rfl rfl (Nat.le_of_ble_eq_true rfl) (Nat.le_of_ble_eq_true rfl) (by simp [mj_recv, rS_f hs4]) rfl (mj_Ok.up (by decide) (rp_fails (D := 0) (c := 1) hs4)) (fun v' g5 hq' => ?_) (fun i h' hq' => by obtain ⟨_, _, h⟩ := hq'; cases h)
    obtain ⟨_, hs5, hq'⟩ := hq'
    cases hq'
    exact mj_T.ret rfl rfl rfl (Or.inr ⟨hno, 0, g5, ⟨by decide, by decide⟩, rfl, ⟨_, N, B, X, V, hs5, K4.put ⟨by decide, by decide⟩ (by decide) (by decide) (by decide) (by decide) (by decide)⟩⟩)
  cases hq'
  refine mj_T.if0 (a := 1) rfl ⟨by decide, by decide⟩ (fun hc => ?_) (fun hc => ?_)
  rotate_left
  · simp [jc] at hc
  obtain ⟨x, rfl⟩ := Int.eq_ofNat_of_zero_le x1
  obtain ⟨y, rfl⟩ := Int.eq_ofNat_of_zero_le y3
  obtain ⟨z, rfl⟩ := Int.eq_ofNat_of_zero_le z5
  iterate 3 refine mj_T.pl rfl rfl rfl rfl ?_
  refine mj_T.call (ins := .invokevirtual 213) rfl rfl (Nat.le_of_ble_eq_true rfl) (Nat.le_of_ble_eq_true rfl) (by simp [mj_recv, rS_f hs4]) rfl (mj_Ok.up (by decide) (rp_loads (D := 0) (p := 0) (r := y) (by decide) (by omega) K4.nR hs4)) (fun v' g6 hq' => ?_) (fun i h' hq' => by obtain ⟨_, _, h⟩ := hq'; cases h)
  obtain ⟨_, hs6, hq'⟩ := hq'
  cases hq'
  have a6 : ∀ e, e < 13 → jfl V 0 (fun e => N (y * 13 + e)) 13 (0 * 13 + e) = N (y * 13 + e) := fun e he => jfl_at _ _ _ he
  have b6 : ∀ s, (s < 0 * 13 ∨ 0 * 13 + 13 ≤ s) → jfl V 0 (fun e => N (y * 13 + e)) 13 s = V s := fun s hc => jfl_off _ _ _ hc
  generalize jfl V 0 (fun e => N (y * 13 + e)) 13 = W6 at hs6 a6 b6
  iterate 3 refine mj_T.pl rfl rfl rfl rfl ?_
  refine mj_T.call (ins := .invokevirtual 213) rfl rfl (Nat.le_of_ble_eq_true rfl) (Nat.le_of_ble_eq_true rfl) (by simp [mj_recv, rS_f hs6]) rfl (mj_Ok.up (by decide) (rp_loads (D := 0) (p := 1) (r := z) (by decide) (by omega) K4.nR hs6)) (fun v' g7 hq' => ?_) (fun i h' hq' => by obtain ⟨_, _, h⟩ := hq'; cases h)
  obtain ⟨_, hs7, hq'⟩ := hq'
  cases hq'
  have a7 : ∀ e, e < 13 → jfl W6 1 (fun e => N (z * 13 + e)) 13 (1 * 13 + e) = N (z * 13 + e) := fun e he => jfl_at _ _ _ he
  have b7 : ∀ s, (s < 1 * 13 ∨ 1 * 13 + 13 ≤ s) → jfl W6 1 (fun e => N (z * 13 + e)) 13 s = W6 s := fun s hc => jfl_off _ _ _ hc
  generalize jfl W6 1 (fun e => N (z * 13 + e)) 13 = W7 at hs7 a7 b7
  have eA : jpo W7 0 = rwN N0 (y : Int) := funext fun e => by
    unfold jpo
    by_cases q : e < 13
    · rw [if_pos q, b7 _ (by omega), a6 e q]
      exact rwN_at K4.2.1 (by omega) q
    · rw [if_neg q]
      show 0 = if e < 13 then _ else 0
      rw [if_neg q]
  have eB : jpo W7 1 = rwN N0 (z : Int) := funext fun e => by
    unfold jpo
    by_cases q : e < 13
    · rw [if_pos q, a7 e q]
      exact rwN_at K4.2.1 (by omega) q
    · rw [if_neg q]
      show 0 = if e < 13 then _ else 0
      rw [if_neg q]
  have c1 : ∀ e, e < 13 → (W7 (0 * 13 + e)).natAbs ≤ 10 ^ 18 := fun e he => by
    rw [b7 _ (by omega), a6 e he]
    exact K4.sh (r := y) (by omega) he
  have c2 : ∀ e, e < 13 → (W7 (1 * 13 + e)).natAbs ≤ 10 ^ 18 := fun e he => by
    rw [a7 e he]
    exact K4.sh (r := z) (by omega) he
  have hl0 := jdg_le W7 0 13
  have hl1 := jdg_le W7 1 13
  have t62 : (jdg W7 0 13 - 1) * (jdg W7 1 13 - 1) ≤ 12 → mj_T 39 mj_m236 62 [some (.ref 0), some (.int (jn (x : Int))), some (.int (jn (y : Int))), some (.int (jn (z : Int))), none] [] g7 (RP tm er T N0 u0 H ((0 ≤ (x : Int) ∧ (x : Int) ≤ 5) ∧ (0 ≤ (y : Int) ∧ (y : Int) ≤ 5) ∧ (0 ≤ (z : Int) ∧ (z : Int) ≤ 5)) (hw (rwN N0 (y : Int)) (rwN N0 (z : Int)) 13) (x : Int)) := fun hd => by
    iterate 2 refine mj_T.pl rfl rfl rfl rfl ?_
    refine mj_T.call (ins := .invokevirtual 110) rfl rfl (Nat.le_of_ble_eq_true rfl) (Nat.le_of_ble_eq_true rfl) (by simp [mj_recv, rS_f hs7]) rfl (mj_Ok.up (by decide) (jp_empties (D := 0) (rG S4 N B T X) (p := 2) (by decide) hs7)) (fun v' g8 hq' => ?_) (fun i h' hq' => by obtain ⟨_, _, h⟩ := hq'; cases h)
    obtain ⟨_, hs8, hq'⟩ := hq'
    cases hq'
    have q1 : ∀ e, e < 13 → jfl W7 2 (fun _ => 0) 13 (2 * 13 + e) = 0 := fun e he => jfl_at _ _ _ he
    have q2 : ∀ s, (s < 26 ∨ 39 ≤ s) → jfl W7 2 (fun _ => 0) 13 s = W7 s := fun s hc => jfl_off _ _ _ (by omega)
    generalize jfl W7 2 (fun _ => 0) 13 = W8 at hs8 q1 q2
    have e0 : jdg W8 0 13 = jdg W7 0 13 := jdg_congr 13 fun e he => q2 _ (by omega)
    iterate 2 refine mj_T.pl rfl rfl rfl rfl ?_
    refine mj_T.call (ins := .invokevirtual 114) rfl rfl (Nat.le_of_ble_eq_true rfl) (Nat.le_of_ble_eq_true rfl) (by simp [mj_recv, rS_f hs8]) rfl (mj_Ok.up (by decide) (jp_degreeOf (D := 0) (rG S4 N B T X) (p := 0) (by decide) hs8)) (fun v' h' hq' => ?_) (fun i h' hq' => by cases hq')
    cases hq'
    rw [e0]
    refine mj_T.pl rfl rfl rfl rfl ?_
    exact rx_sb_loop (V0 := W7) ⟨⟨by omega, by omega⟩, ⟨by omega, by omega⟩, ⟨by omega, by omega⟩⟩ (by rw [eA, eB]) (by omega) K4 c1 c2 hd (jdg W7 0 13) 0 _ _ (by omega) hs8 (fun j hj => q2 _ (by omega)) (fun e he => by rw [q1 e he]; exact Nat.zero_le _) (Or.inl ⟨rfl, by have := jdg_of_zero (W := W8) (p := 2) (d := 0) (k := 13) (fun e _ he => q1 e he); omega⟩) (fun e he => by rw [q1 e he]; exact (hw_low (d := jdg W7 0 13) (fun i hi => jpo_zb hi) _ (by omega) e).symm)
  iterate 2 refine mj_T.pl rfl rfl rfl rfl ?_
  refine mj_T.call (ins := .invokevirtual 114) rfl rfl (Nat.le_of_ble_eq_true rfl) (Nat.le_of_ble_eq_true rfl) (by simp [mj_recv, rS_f hs7]) rfl (mj_Ok.up (by decide) (jp_degreeOf (D := 0) (rG S4 N B T X) (p := 1) (by decide) hs7)) (fun v' h' hq' => ?_) (fun i h' hq' => by cases hq')
  cases hq'
  refine mj_T.if0 (a := (jdg W7 1 13 : Int) - 1) rfl ⟨by omega, by omega⟩ (fun hc => ?_) (fun hc => ?_)
  · simp only [jc, decide_eq_true_eq] at hc
    exact t62 (by rw [show jdg W7 1 13 - 1 = 0 by omega, Nat.mul_zero]; exact Nat.zero_le _)
  simp only [jc, decide_eq_false_iff_not] at hc
  iterate 2 refine mj_T.pl rfl rfl rfl rfl ?_
  refine mj_T.call (ins := .invokevirtual 114) rfl rfl (Nat.le_of_ble_eq_true rfl) (Nat.le_of_ble_eq_true rfl) (by simp [mj_recv, rS_f hs7]) rfl (mj_Ok.up (by decide) (jp_degreeOf (D := 0) (rG S4 N B T X) (p := 0) (by decide) hs7)) (fun v' h' hq' => ?_) (fun i h' hq' => by cases hq')
  cases hq'
  iterate 2 refine mj_T.pl rfl rfl rfl rfl ?_
  refine mj_T.call (ins := .invokevirtual 114) rfl rfl (Nat.le_of_ble_eq_true rfl) (Nat.le_of_ble_eq_true rfl) (by simp [mj_recv, rS_f hs7]) rfl (mj_Ok.up (by decide) (jp_degreeOf (D := 0) (rG S4 N B T X) (p := 1) (by decide) hs7)) (fun v' h' hq' => ?_) (fun i h' hq' => by cases hq')
  cases hq'
  refine mj_T.imul rfl ?_
  have e2 : (jdg W7 0 13 - 1) * (jdg W7 1 13 - 1) ≤ 12 * 12 := Nat.mul_le_mul (by omega) (by omega)
  have e3 : ((jdg W7 0 13 : Nat) : Int) - 1 = ((jdg W7 0 13 - 1 : Nat) : Int) ∨ jdg W7 0 13 = 0 := by omega
  have e4 : ((jdg W7 1 13 : Nat) : Int) - 1 = ((jdg W7 1 13 - 1 : Nat) : Int) := by omega
  have e5 : -12 ≤ (((jdg W7 0 13 : Nat) : Int) - 1) * (((jdg W7 1 13 : Nat) : Int) - 1) ∧ (((jdg W7 0 13 : Nat) : Int) - 1) * (((jdg W7 1 13 : Nat) : Int) - 1) ≤ 144 ∧ ((((jdg W7 0 13 : Nat) : Int) - 1) * (((jdg W7 1 13 : Nat) : Int) - 1) ≤ 12 → (jdg W7 0 13 - 1) * (jdg W7 1 13 - 1) ≤ 12) ∧ (12 < (((jdg W7 0 13 : Nat) : Int) - 1) * (((jdg W7 1 13 : Nat) : Int) - 1) → 12 < (jdg W7 0 13 - 1) * (jdg W7 1 13 - 1)) := by
    rcases e3 with e3 | e3
    · rw [e3, e4, ← Int.natCast_mul]
      omega
    · rw [e3]
      omega
  refine mj_T.pl rfl rfl rfl rfl ?_
  refine mj_T.icmp (a := (((jdg W7 0 13 : Nat) : Int) - 1) * (((jdg W7 1 13 : Nat) : Int) - 1)) (b := 12) rfl ⟨by omega, by omega⟩ ⟨by decide, by decide⟩ (fun hc2 => ?_) (fun hc2 => ?_)
  · simp only [jc, decide_eq_true_eq] at hc2
    exact t62 (e5.2.2.1 hc2)
  iterate 2 refine mj_T.pl rfl rfl rfl rfl ?_
  refine mj_T.call (ins := .invokevirtual 198) rfl rfl (Nat.le_of_ble_eq_true rfl) (Nat.le_of_ble_eq_true rfl) (by simp [mj_recv, rS_f hs7]) rfl (mj_Ok.up (by decide) (rp_fails (D := 0) (c := 2) hs7)) (fun v' g9 hq' => ?_) (fun i h' hq' => by obtain ⟨_, _, h⟩ := hq'; cases h)
  obtain ⟨_, hs9, hq'⟩ := hq'
  cases hq'
  have hbad := hw_nofit (V := W7) (e5.2.2.2 (by simp only [jc, decide_eq_false_iff_not] at hc2; omega))
  rw [eA, eB] at hbad
  exact mj_T.ret rfl rfl rfl (Or.inl ⟨⟨⟨by omega, by omega⟩, ⟨by omega, by omega⟩, ⟨by omega, by omega⟩⟩, Or.inr ⟨hbad, 0, g9, ⟨by decide, by decide⟩, rfl, ⟨_, N, B, X, W7, hs9, K4.put ⟨by decide, by decide⟩ (by decide) (by decide) (by decide) (by decide) (by decide)⟩⟩⟩)
end RSU
