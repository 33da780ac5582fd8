/-! Calls of the reference: write, writtenAt, shares, errors. -/
def rD (tm er : Int) (T : Nat → Int) (r : mj_R) : Prop := ∃ (z : UInt64) (h' : mj_H), r = (.inl (some (.double z)), h') ∧ jI tm er T h'
def rE (tm er : Int) (T : Nat → Int) (r : mj_R) : Prop := ∃ (z : UInt32) (h' : mj_H), r = (.inl (some (.float z)), h') ∧ jI tm er T h'
theorem jK.put15 {tm er : Int} {S N B T : Nat → Int} (K : jK tm er S N B T) {w : Nat} (hw : w ≤ 600) : jK tm er (jvu S 15 (w : Int)) N B T := by
  obtain ⟨k1, k2, k3, k4, k5, k6, k7, k8, k9⟩ := K
  have e : ∀ x, x ≠ 15 → jvu S 15 (w : Int) x = S x := fun x hx => jvu_ne _ _ _ hx
  refine ⟨k1, by rw [e 2 (by decide)]; exact k2, fun j hj => k3 j (by rw [e 2 (by decide)] at hj; exact hj), by rw [e 9 (by decide)]; exact k4, by rw [e 12 (by decide)]; exact k5, by rw [jvu_at]; omega, fun x => ?_, by rw [e 13 (by decide)]; exact k8, k9⟩
  by_cases hx : x = 15
  · subst hx
    rw [jvu_at]
    exact ⟨by omega, by omega⟩
  · rw [e x hx]
    exact k7 x
theorem rp_dd : ∀ n, n < 79 → FP.ddiv (FP.i2d (jn (n : Nat))) 4618441417868443648 &&& 0x7fffffffffffffff ≤ 0x7ff0000000000000 := by decide +kernel
theorem rp_ff : ∀ n, n < 79 → FP.fdiv (FP.i2f (jn (n : Nat))) 1086324736 &&& 0x7fffffff ≤ 0x7f800000 := by decide +kernel
section RFP
variable {D pc r1 r2 r3 r4 r5 : Nat} {M : mj_M} {loc : mj_L} {st : List Value} {h : mj_H} {Q : mj_R → Prop}
theorem mj_T.ddv {x y : UInt64} (hc : M.2.2.2.2.1 pc = some (.ddiv, r1, r2, r3, r4, r5)) (hy : FP.ddiv x y &&& 0x7fffffffffffffff ≤ 0x7ff0000000000000) (k : mj_T D M (pc + 1) loc (.double (FP.ddiv x y) :: st) h Q) : mj_T D M pc loc (.double y :: .double x :: st) h Q :=
  mj_T.step hc rfl (by simp only [mj_step]; rw [if_pos hy]) k
theorem mj_T.fdv {x y : UInt32} (hc : M.2.2.2.2.1 pc = some (.fdiv, r1, r2, r3, r4, r5)) (hy : FP.fdiv x y &&& 0x7fffffff ≤ 0x7f800000) (k : mj_T D M (pc + 1) loc (.float (FP.fdiv x y) :: st) h Q) : mj_T D M pc loc (.float y :: .float x :: st) h Q :=
  mj_T.step hc rfl (by simp only [mj_step]; rw [if_pos hy]) k
end RFP
section RPU
variable {h : mj_H} {tm er : Int} {T : Nat → Int}
theorem rp_wr_loop {S N B V : Nat → Int} {a : Nat} {d : Int} (ha : a ≤ 5) (hd : -1 ≤ d ∧ d ≤ 12) (K : jK tm er S N B T) :
    ∀ (m w : Nat) (X : Nat → Int) (h : mj_H) (l4 : Option Value), m ≤ 13 → w + 43 * m ≤ 600 → rS (jvu S 15 (w : Int)) N B T X V h → mj_T 39 mj_m305 41 [some (.ref 0), some (.int (jn (a : Int))), some (.int (jn d)), some (.int (jn ((m : Int) - 1))), l4, none] [] h (rI tm er T) := by
  intro m
  induction m with
  | zero =>
    intro w X h l4 hm hw hs
    refine mj_T.pl rfl rfl rfl rfl ?_
    refine mj_T.if0 (a := ((0 : Nat) : Int) - 1) rfl ⟨by decide, by decide⟩ (fun hc => ?_) (fun hc => ?_)
    · refine mj_T.pl rfl rfl rfl rfl ?_
      refine rT_get (v := .int (jn (w : Int))) hs rfl (by show some (Value.int (jn (jvu S 15 (w : Int) 15))) = _; rw [jvu_at]) ?_
      exact mj_T.ret rfl rfl rfl ⟨(w : Int), h, ⟨by omega, by omega⟩, rfl, ⟨_, _, _, _, _, hs, K.put15 (by omega)⟩⟩
    · simp [jc] at hc
  | succ m ih =>
    intro w X h l4 hm hw hs
    refine mj_T.pl rfl rfl rfl rfl ?_
    refine mj_T.if0 (a := ((m + 1 : Nat) : Int) - 1) rfl ⟨by omega, by omega⟩ (fun hc => ?_) (fun hc => ?_)
    · simp only [jc, decide_eq_true_eq] at hc
      omega
    rw [show ((m + 1 : Nat) : Int) - 1 = (m : Int) by omega]
    have hN := K.1.1 (a * 13 + m) (by omega)
    refine mj_T.pl rfl rfl rfl rfl ?_
    refine rT_get hs rfl rfl ?_
    iterate 2 refine mj_T.pl rfl rfl rfl rfl ?_
    refine mj_T.imul (a := (a : Int)) (b := 13) rfl ?_
    refine mj_T.pl rfl rfl rfl rfl ?_
    refine mj_T.iadd rfl ?_
    rw [show (a : Int) * 13 + (m : Int) = ((a * 13 + m : Nat) : Int) by omega]
    refine rT_ldN hs rfl ⟨by omega, by omega⟩ ?_
    rw [Int.toNat_natCast]
    iterate 3 refine mj_T.pl rfl rfl rfl rfl ?_
    have t126 : ∀ (w2 : Nat) (X2 : Nat → Int) (h2 : mj_H), w2 ≤ w + 43 → rS (jvu S 15 (w2 : Int)) N B T X2 V h2 → mj_T 39 mj_m305 126 [some (.ref 0), some (.int (jn (a : Int))), some (.int (jn d)), some (.int (jn (m : Int))), some (.long (jl (N (a * 13 + m)))), none] [] h2 (rI tm er T) := fun w2 X2 h2 hw2 hs2 => by
      refine mj_T.iinc (a := (m : Int)) rfl rfl ?_
      refine mj_T.pl rfl rfl rfl rfl ?_
      exact ih w2 X2 h2 _ (by omega) (by omega) hs2
    have t119 : ∀ (w2 : Nat) (X2 : Nat → Int) (h2 : mj_H), w2 ≤ w + 3 → rS (jvu S 15 (w2 : Int)) N B T X2 V h2 → mj_T 39 mj_m305 119 [some (.ref 0), some (.int (jn (a : Int))), some (.int (jn d)), some (.int (jn (m : Int))), some (.long (jl (N (a * 13 + m)))), none] [] h2 (rI tm er T) := fun w2 X2 h2 hw2 hs2 => by
      iterate 3 refine mj_T.pl rfl rfl rfl rfl ?_
      refine mj_T.call (ins := .invokevirtual 403) rfl rfl (Nat.le_of_ble_eq_true rfl) (Nat.le_of_ble_eq_true rfl) (by simp [mj_recv, rS_f hs2]) rfl (mj_Ok.up (by decide) (rp_writesTerm (D := 0) (w := w2) (e := m) hN (by omega) (by omega) hs2)) (fun v' h3 hq' => ?_) (fun i h' hq' => by obtain ⟨_, _, _, _, _, h⟩ := hq'; cases h)
      obtain ⟨w3, X3, _, wb3, hs3, hq'⟩ := hq'
      cases hq'
      exact t126 w3 X3 _ (by omega) hs3
    refine mj_T.lif (a := N (a * 13 + m)) (b := 0) rfl rfl ⟨by omega, by omega⟩ ⟨by decide, by decide⟩ (fun hc2 => ?_) (fun hc2 => ?_)
    rotate_left
    · refine mj_T.pl rfl rfl rfl rfl ?_
      exact t126 w X h (by omega) hs
    iterate 2 refine mj_T.pl rfl rfl rfl rfl ?_
    refine mj_T.icmp (a := (m : Int)) (b := d) rfl ⟨by omega, by omega⟩ ⟨by omega, by omega⟩ (fun hc3 => ?_) (fun hc3 => ?_)
    · iterate 2 refine mj_T.pl rfl rfl rfl rfl ?_
      refine mj_T.lif (a := N (a * 13 + m)) (b := 0) rfl rfl ⟨by omega, by omega⟩ ⟨by decide, by decide⟩ (fun hc4 => ?_) (fun hc4 => ?_)
      · exact t119 w X h (by omega) hs
      iterate 2 refine mj_T.pl rfl rfl rfl rfl ?_
      refine mj_T.call (ins := .invokevirtual 396) rfl rfl (Nat.le_of_ble_eq_true rfl) (Nat.le_of_ble_eq_true rfl) (by simp [mj_recv, rS_f hs]) rfl (mj_Ok.up (by omega) (rp_writes (D := 0) (w := w) (by omega) hs)) (fun v' h5 hq' => ?_) (fun i h' hq' => by obtain ⟨_, _, _, h⟩ := hq'; cases h)
      obtain ⟨X5, _, hs5, hq'⟩ := hq'
      cases hq'
      exact t119 (w + 1) X5 h5 (by omega) hs5
    iterate 2 refine mj_T.pl rfl rfl rfl rfl ?_
    refine mj_T.call (ins := .invokevirtual 396) rfl rfl (Nat.le_of_ble_eq_true rfl) (Nat.le_of_ble_eq_true rfl) (by simp [mj_recv, rS_f hs]) rfl (mj_Ok.up (by omega) (rp_writes (D := 0) (w := w) (by omega) hs)) (fun v' h5 hq' => ?_) (fun i h' hq' => by obtain ⟨_, _, _, h⟩ := hq'; cases h)
    obtain ⟨X5, _, hs5, hq'⟩ := hq'
    cases hq'
    iterate 3 refine mj_T.pl rfl rfl rfl rfl ?_
    have t94 : ∀ c : Int, mj_T 39 mj_m305 94 [some (.ref 0), some (.int (jn (a : Int))), some (.int (jn d)), some (.int (jn (m : Int))), some (.long (jl (N (a * 13 + m)))), none] [.int (jn c), .ref 0] h5 (rI tm er T) := fun c => by
      refine mj_T.call (ins := .invokevirtual 396) rfl rfl (Nat.le_of_ble_eq_true rfl) (Nat.le_of_ble_eq_true rfl) (by simp [mj_recv, rS_f hs5]) rfl (mj_Ok.up (by omega) (rp_writes (D := 0) (w := w + 1) (by omega) hs5)) (fun v' h6 hq' => ?_) (fun i h' hq' => by obtain ⟨_, _, _, h⟩ := hq'; cases h)
      obtain ⟨X6, _, hs6, hq'⟩ := hq'
      cases hq'
      iterate 2 refine mj_T.pl rfl rfl rfl rfl ?_
      refine mj_T.call (ins := .invokevirtual 396) rfl rfl (Nat.le_of_ble_eq_true rfl) (Nat.le_of_ble_eq_true rfl) (by simp [mj_recv, rS_f hs6]) rfl (mj_Ok.up (by omega) (rp_writes (D := 0) (w := w + 1 + 1) (by omega) hs6)) (fun v' h7 hq' => ?_) (fun i h' hq' => by obtain ⟨_, _, _, h⟩ := hq'; cases h)
      obtain ⟨X7, _, hs7, hq'⟩ := hq'
      cases hq'
      refine mj_T.pl rfl rfl rfl rfl ?_
      exact t119 (w + 1 + 1 + 1) X7 h7 (by omega) hs7
    refine mj_T.lif (a := N (a * 13 + m)) (b := 0) rfl rfl ⟨by omega, by omega⟩ ⟨by decide, by decide⟩ (fun hc4 => ?_) (fun hc4 => ?_)
    · refine mj_T.pl rfl rfl rfl rfl ?_
      exact t94 43
    · iterate 2 refine mj_T.pl rfl rfl rfl rfl ?_
      exact t94 45
theorem rp_write {x : Int} (hx : jr x) (hI : jI tm er T h) : mj_Ok 40 305 [.ref 0, .int (jn x)] h (rI tm er T) := by
  refine mj_Ok.of (M := mj_m305) rfl rfl rfl ?_
  obtain ⟨S, N, B, X, V, hs, K⟩ := hI
  iterate 2 refine mj_T.pl rfl rfl rfl rfl ?_
  refine rT_put (v := 0) hs rfl rfl (by decide) rfl (fun g1 hs1 => ?_)
  have K1 := K.put (k := 3) (v := 0) ⟨by decide, by decide⟩ (by decide) (by decide) (by decide) (by decide) (by decide)
  generalize jvu S 3 0 = S1 at hs1 K1
  refine mj_T.pl rfl rfl rfl rfl ?_
  refine mj_T.call (ins := .invokestatic 181) rfl rfl (Nat.le_of_ble_eq_true rfl) (Nat.le_of_ble_eq_true rfl) rfl rfl (mj_Ok.up (by decide) (rp_isRegister (D := 0) hx)) (fun v' h' hq' => ?_) (fun i h' hq' => by rcases hq' with ⟨_, _, h⟩ | ⟨_, h⟩ <;> cases h)
  rcases hq' with ⟨x1, x2, hq'⟩ | ⟨_, hq'⟩
  case' inr =>
    cases hq'
    refine mj_T.if0 (a := 0) rfl ⟨by decide, by decide⟩ (fun hc => ?_) (fun hc => ?_)
    · simp [jc] at hc
    iterate 2 refine mj_T.pl rfl rfl rfl rfl ?_
    refine mj_T.call (ins := .invokevirtual 198) rfl rfl (Nat.le_of_ble_eq_true rfl) (Nat.le_of_ble_eq_true rfl) (by simp [mj_recv, rS_f hs1]) rfl (mj_Ok.up (by decide) (rp_fails (D := 0) (c := 1) hs1)) (fun v' g2 hq' => ?_) (fun i h' hq' => by obtain ⟨_, _, h⟩ := hq'; cases h)
    obtain ⟨_, hs2, hq'⟩ := hq'
    cases hq'
    exact mj_T.ret rfl rfl rfl ⟨0, g2, ⟨by decide, by decide⟩, rfl, ⟨_, N, B, X, V, hs2, K1.put ⟨by decide, by decide⟩ (by decide) (by decide) (by decide) (by decide) (by decide)⟩⟩
  cases hq'
  refine mj_T.if0 (a := 1) rfl ⟨by decide, by decide⟩ (fun hc => ?_) (fun hc => ?_)
  rotate_left
  · simp [jc] at hc
  obtain ⟨x, rfl⟩ := Int.eq_ofNat_of_zero_le x1
  iterate 2 refine mj_T.pl rfl rfl rfl rfl ?_
  refine rT_put (v := ((0 : Nat) : Int)) hs1 rfl rfl (by decide) rfl (fun h2 hs2 => ?_)
  have hd := jdg_le N x 13
  iterate 2 refine mj_T.pl rfl rfl rfl rfl ?_
  refine mj_T.call (ins := .invokevirtual 185) rfl rfl (Nat.le_of_ble_eq_true rfl) (Nat.le_of_ble_eq_true rfl) (by simp [mj_recv, rS_f hs2]) rfl (mj_Ok.up (by decide) (rp_degreeIn (D := 0) (r := x) (by omega) K1.nR hs2)) (fun v' h' hq' => ?_) (fun i h' hq' => by cases hq')
  cases hq'
  iterate 2 refine mj_T.pl rfl rfl rfl rfl ?_
  have t39 : ∀ (w : Nat) (X2 : Nat → Int) (h3 : mj_H), w ≤ 1 → rS (jvu S1 15 (w : Int)) N B T X2 V h3 → mj_T 39 mj_m305 39 [some (.ref 0), some (.int (jn (x : Int))), some (.int (jn ((jdg N x 13 : Int) - 1))), none, none, none] [] h3 (rI tm er T) := fun w X2 h3 hw hs3 => by
    iterate 2 refine mj_T.pl rfl rfl rfl rfl ?_
    obtain ⟨m, hm⟩ : ∃ m, jdg N x 13 = m := ⟨_, rfl⟩
    rw [hm] at hd ⊢
    exact rp_wr_loop (d := (m : Int) - 1) (by omega) ⟨by omega, by omega⟩ K1 m w X2 h3 none hd (by omega) hs3
  refine mj_T.if0 (a := (jdg N x 13 : Int) - 1) rfl ⟨by omega, by omega⟩ (fun hc => ?_) (fun hc => ?_)
  · exact t39 0 X h2 (by decide) hs2
  iterate 2 refine mj_T.pl rfl rfl rfl rfl ?_
  refine mj_T.call (ins := .invokevirtual 396) rfl rfl (Nat.le_of_ble_eq_true rfl) (Nat.le_of_ble_eq_true rfl) (by simp [mj_recv, rS_f hs2]) rfl (mj_Ok.up (by omega) (rp_writes (D := 0) (w := 0) (by omega) hs2)) (fun v' h5 hq' => ?_) (fun i h' hq' => by obtain ⟨_, _, _, h⟩ := hq'; cases h)
  obtain ⟨X5, _, hs5, hq'⟩ := hq'
  cases hq'
  exact t39 1 X5 h5 (by decide) hs5
theorem rp_writtenAt {x : Int} (hx : jr x) (hI : jI tm er T h) : mj_Ok 40 306 [.ref 0, .int (jn x)] h (rI tm er T) := by
  refine mj_Ok.of (M := mj_m306) rfl rfl rfl ?_
  obtain ⟨S, N, B, X, V, hs, K⟩ := hI
  iterate 2 refine mj_T.pl rfl rfl rfl rfl ?_
  refine rT_put (v := 0) hs rfl rfl (by decide) rfl (fun g3 hs3 => ?_)
  have K3 := K.put (k := 3) (v := 0) ⟨by decide, by decide⟩ (by decide) (by decide) (by decide) (by decide) (by decide)
  generalize jvu S 3 0 = S3 at hs3 K3
  have k6 := K3.2.2.2.2.2.1
  refine mj_T.pl rfl rfl rfl rfl ?_
  refine mj_T.i2l rfl hx ?_
  iterate 2 refine mj_T.pl rfl rfl rfl rfl ?_
  refine rT_get hs3 rfl rfl ?_
  refine mj_T.pl rfl rfl rfl rfl ?_
  refine mj_T.isub (a := S3 15) (b := 1) rfl ?_
  refine mj_T.i2l rfl ⟨by omega, by omega⟩ ?_
  refine mj_T.call (ins := .invokestatic 177) rfl rfl (Nat.le_of_ble_eq_true rfl) (Nat.le_of_ble_eq_true rfl) rfl rfl (mj_Ok.up (by decide) (rp_in (D := 0) (v := x) (lo := 0) (hi := S3 15 - 1) ⟨by have := hx.1; omega, by have := hx.2; omega⟩ ⟨by decide, by decide⟩ ⟨by omega, by omega⟩)) (fun v' h' hq' => ?_) (fun i h' hq' => by rcases hq' with ⟨_, _, h⟩ | ⟨_, h⟩ <;> cases h)
  rcases hq' with ⟨x1, x2, hq'⟩ | ⟨_, hq'⟩
  case' inr =>
    cases hq'
    refine mj_T.if0 (a := 0) rfl ⟨by decide, by decide⟩ (fun hc => ?_) (fun hc => ?_)
    rotate_left
    · simp [jc] at hc
    iterate 2 refine mj_T.pl rfl rfl rfl rfl ?_
    refine mj_T.call (ins := .invokevirtual 198) rfl rfl (Nat.le_of_ble_eq_true rfl) (Nat.le_of_ble_eq_true rfl) (by simp [mj_recv, rS_f hs3]) rfl (mj_Ok.up (by decide) (rp_fails (D := 0) (c := 1) hs3)) (fun v' g4 hq' => ?_) (fun i h' hq' => by obtain ⟨_, _, h⟩ := hq'; cases h)
    obtain ⟨_, hs4, hq'⟩ := hq'
    cases hq'
    exact mj_T.ret rfl rfl rfl ⟨0, g4, ⟨by decide, by decide⟩, rfl, ⟨_, N, B, X, V, hs4, K3.put ⟨by decide, by decide⟩ (by decide) (by decide) (by decide) (by decide) (by decide)⟩⟩
  cases hq'
  refine mj_T.if0 (a := 1) rfl ⟨by decide, by decide⟩ (fun hc => ?_) (fun hc => ?_)
  · simp [jc] at hc
  refine mj_T.pl rfl rfl rfl rfl ?_
  refine rT_get hs3 rfl rfl ?_
  refine mj_T.pl rfl rfl rfl rfl ?_
  refine rT_ldX hs3 rfl ⟨by omega, by omega⟩ ?_
  refine mj_T.pl rfl rfl rfl rfl ?_
  rw [← jn_of (jn (X x.toNat))]
  exact mj_T.ret rfl rfl rfl ⟨_, _, jr_of _, rfl, ⟨_, _, _, _, _, hs3, K3⟩⟩
theorem rp_meanTerms_loop {S N B X V : Nat → Int} (hs : rS S N B T X V h) (K : jK tm er S N B T) :
    ∀ (m k c : Nat), k + m = 6 → c ≤ 13 * k → mj_T 39 mj_m307 9 [some (.ref 0), some (.int (jn (c : Int))), some (.int (jn (k : Int)))] [] h (rD tm er T) := by
  intro m
  induction m with
  | zero =>
    intro k c hk hcb
    have hk : k = 6 := by omega
    subst hk
    iterate 2 refine mj_T.pl rfl rfl rfl rfl ?_
    refine mj_T.icmp (a := ((6 : Nat) : Int)) (b := 6) rfl ⟨by decide, by decide⟩ ⟨by decide, by decide⟩ (fun hc => ?_) (fun hc => ?_)
    · iterate 3 refine mj_T.pl rfl rfl rfl rfl ?_
      refine mj_T.ddv rfl (rp_dd c (by omega)) ?_
      exact mj_T.ret rfl rfl rfl ⟨_, h, rfl, ⟨_, _, _, _, _, hs, K⟩⟩
    · simp [jc] at hc
  | succ m ih =>
    intro k c hk hcb
    iterate 2 refine mj_T.pl rfl rfl rfl rfl ?_
    refine mj_T.icmp (a := (k : Int)) (b := 6) rfl ⟨by omega, by omega⟩ ⟨by decide, by decide⟩ (fun hc => ?_) (fun hc => ?_)
    · simp only [jc, decide_eq_true_eq] at hc
      omega
    iterate 3 refine mj_T.pl rfl rfl rfl rfl ?_
    have hrt := rtm_le N k 13
    refine mj_T.call (ins := .invokevirtual 292) rfl rfl (Nat.le_of_ble_eq_true rfl) (Nat.le_of_ble_eq_true rfl) (by simp [mj_recv, rS_f hs]) rfl (mj_Ok.up (by decide) (rp_termsOf (D := 0) (r := k) (by omega) K.nR hs)) (fun v' h' hq' => ?_) (fun i h' hq' => by cases hq')
    cases hq'
    refine mj_T.iadd (a := (c : Int)) (b := ((rtm N k 13 : Nat) : Int)) rfl ?_
    rw [show (c : Int) + ((rtm N k 13 : Nat) : Int) = ((c + rtm N k 13 : Nat) : Int) by omega]
    refine mj_T.pl rfl rfl rfl rfl ?_
    refine mj_T.iinc (a := (k : Int)) rfl rfl ?_
    refine mj_T.pl rfl rfl rfl rfl ?_
    exact ih (k + 1) _ (by omega) (by omega)
theorem rp_meanTerms  (hI : jI tm er T h) : mj_Ok 40 307 [.ref 0] h (rD tm er T) := by
  refine mj_Ok.of (M := mj_m307) rfl rfl rfl ?_
  obtain ⟨S, N, B, X, V, hs, K⟩ := hI
  iterate 2 refine mj_T.pl rfl rfl rfl rfl ?_
  refine rT_put (v := 0) hs rfl rfl (by decide) rfl (fun g5 hs5 => ?_)
  have K5 := K.put (k := 3) (v := 0) ⟨by decide, by decide⟩ (by decide) (by decide) (by decide) (by decide) (by decide)
  generalize jvu S 3 0 = S5 at hs5 K5
  iterate 4 refine mj_T.pl rfl rfl rfl rfl ?_
  exact rp_meanTerms_loop hs5 K5 6 0 0 (by omega) (by decide)
theorem rp_usedShare_loop {S N B X V : Nat → Int} (hs : rS S N B T X V h) (K : jK tm er S N B T) :
    ∀ (m k c : Nat), k + m = 6 → c ≤ 13 * k → mj_T 39 mj_m308 9 [some (.ref 0), some (.int (jn (c : Int))), some (.int (jn (k : Int)))] [] h (rE tm er T) := by
  intro m
  induction m with
  | zero =>
    intro k c hk hcb
    have hk : k = 6 := by omega
    subst hk
    iterate 2 refine mj_T.pl rfl rfl rfl rfl ?_
    refine mj_T.icmp (a := ((6 : Nat) : Int)) (b := 6) rfl ⟨by decide, by decide⟩ ⟨by decide, by decide⟩ (fun hc => ?_) (fun hc => ?_)
    · iterate 3 refine mj_T.pl rfl rfl rfl rfl ?_
      refine mj_T.fdv rfl (rp_ff c (by omega)) ?_
      exact mj_T.ret rfl rfl rfl ⟨_, h, rfl, ⟨_, _, _, _, _, hs, K⟩⟩
    · simp [jc] at hc
  | succ m ih =>
    intro k c hk hcb
    iterate 2 refine mj_T.pl rfl rfl rfl rfl ?_
    refine mj_T.icmp (a := (k : Int)) (b := 6) rfl ⟨by omega, by omega⟩ ⟨by decide, by decide⟩ (fun hc => ?_) (fun hc => ?_)
    · simp only [jc, decide_eq_true_eq] at hc
      omega
    iterate 3 refine mj_T.pl rfl rfl rfl rfl ?_
    refine mj_T.call (ins := .invokevirtual 232) rfl rfl (Nat.le_of_ble_eq_true rfl) (Nat.le_of_ble_eq_true rfl) (by simp [mj_recv, rS_f hs]) rfl (mj_Ok.up (by decide) (rp_isZero (D := 0) (r := k) (by omega) K.nR hs)) (fun v' h' hq' => ?_) (fun i h' hq' => by rcases hq' with ⟨_, h⟩ | ⟨_, h⟩ <;> cases h)
    rcases hq' with ⟨_, hq'⟩ | ⟨_, hq'⟩
    · cases hq'
      refine mj_T.if0 (a := 1) rfl ⟨by decide, by decide⟩ (fun hc => ?_) (fun hc => ?_)
      · simp [jc] at hc
      iterate 2 refine mj_T.pl rfl rfl rfl rfl ?_
      refine mj_T.iadd (a := (c : Int)) (b := 0) rfl ?_
      rw [show (c : Int) + 0 = ((c + 0 : Nat) : Int) by omega]
      refine mj_T.pl rfl rfl rfl rfl ?_
      refine mj_T.iinc (a := (k : Int)) rfl rfl ?_
      refine mj_T.pl rfl rfl rfl rfl ?_
      exact ih (k + 1) _ (by omega) (by omega)
    · cases hq'
      refine mj_T.if0 (a := 0) rfl ⟨by decide, by decide⟩ (fun hc => ?_) (fun hc => ?_)
      rotate_left
      · simp [jc] at hc
      refine mj_T.pl rfl rfl rfl rfl ?_
      refine mj_T.iadd (a := (c : Int)) (b := 1) rfl ?_
      rw [show (c : Int) + 1 = ((c + 1 : Nat) : Int) by omega]
      refine mj_T.pl rfl rfl rfl rfl ?_
      refine mj_T.iinc (a := (k : Int)) rfl rfl ?_
      refine mj_T.pl rfl rfl rfl rfl ?_
      exact ih (k + 1) _ (by omega) (by omega)
theorem rp_usedShare  (hI : jI tm er T h) : mj_Ok 40 308 [.ref 0] h (rE tm er T) := by
  refine mj_Ok.of (M := mj_m308) rfl rfl rfl ?_
  obtain ⟨S, N, B, X, V, hs, K⟩ := hI
  iterate 2 refine mj_T.pl rfl rfl rfl rfl ?_
  refine rT_put (v := 0) hs rfl rfl (by decide) rfl (fun g6 hs6 => ?_)
  have K6 := K.put (k := 3) (v := 0) ⟨by decide, by decide⟩ (by decide) (by decide) (by decide) (by decide) (by decide)
  generalize jvu S 3 0 = S6 at hs6 K6
  iterate 4 refine mj_T.pl rfl rfl rfl rfl ?_
  exact rp_usedShare_loop hs6 K6 6 0 0 (by omega) (by decide)
end RPU
