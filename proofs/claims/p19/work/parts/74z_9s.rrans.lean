/-! Answers of the calls that only read: the reference. -/
def rIa (A : Int → Int → Prop) (N0 : Nat → Int) (u : Nat) (H : Nat → Nat → Int) (tm er : Int) (T : Nat → Int) (r : mj_R) : Prop := ∃ (c z : Int) (h' : mj_H), A c z ∧ jr z ∧ r = (.inl (some (.int (jn z))), h') ∧ jItx N0 u H c tm er T h'
theorem rIa.za {A : Int → Int → Prop} {N : Nat → Int} {u : Nat} {H : Nat → Nat → Int} {tm er : Int} {T : Nat → Int} {r : mj_R} (k : rIa A N u H tm er T r) : rZa (sameQ N u H) A tm er T r := by
  obtain ⟨c, z, h', a, jz, rfl, I⟩ := k
  exact ⟨c, z, N, u, H, a, jz, rfl, ⟨rfl, rfl, rfl⟩, I⟩
theorem rtm_tmc {N N0 : Nat → Int} (hn : ∀ j, j < 91 → N j = N0 j) {x : Nat} (hx : x ≤ 5) : ∀ k, k ≤ 13 → rtm N x k = tmc (rwN N0 (x : Int)) k
  | 0, _ => rfl
  | k + 1, hk => by
    unfold rtm tmc
    rw [rwN_at hn hx (show k < 13 by omega), rtm_tmc hn hx k (by omega)]
section RAV
variable {h : mj_H} {D : Nat} {S N B T X V : Nat → Int}
theorem ra_tellsWhole {s : Nat} (hl : s < 665) (hs : rS S N B T X V h) : mj_Ok (D + 3) 222 [.ref 0, .int (jn (s : Nat))] h (fun r => ∃ (W : Nat → Int) (h' : mj_H), rS S N B T X W h' ∧ r = (.inl (some (.int (jn (jsg (V s))))), h')) := by
  refine mj_Ok.of (M := mj_m222) rfl rfl rfl ?_
  iterate 3 refine mj_T.pl rfl rfl rfl rfl ?_
  refine mj_T.call (ins := .invokevirtual 84) rfl rfl (Nat.le_of_ble_eq_true rfl) (Nat.le_of_ble_eq_true rfl) (by simp [mj_recv, rS_f hs]) rfl (jS_copies (D := D) (rG S N B T X) (to := 650) (s := s) (by decide) hl hs) (fun v' h1 hq' => ?_) (fun i h' hq' => by obtain ⟨_, _, h⟩ := hq'; cases h)
  obtain ⟨_, hs1, hq'⟩ := hq'
  cases hq'
  iterate 3 refine mj_T.pl rfl rfl rfl rfl ?_
  refine mj_T.call (ins := .invokevirtual 45) rfl rfl (Nat.le_of_ble_eq_true rfl) (Nat.le_of_ble_eq_true rfl) (by simp [mj_recv, rS_f hs1]) rfl (jS_sets (D := D + 1) (rG S N B T X) (s := 651) (v := 1) (by decide) ⟨by decide, by decide⟩ hs1) (fun v' h2 hq' => ?_) (fun i h' hq' => by obtain ⟨_, _, h⟩ := hq'; cases h)
  obtain ⟨_, hs2, hq'⟩ := hq'
  cases hq'
  iterate 2 refine mj_T.pl rfl rfl rfl rfl ?_
  refine mj_T.call (ins := .invokevirtual 68) rfl rfl (Nat.le_of_ble_eq_true rfl) (Nat.le_of_ble_eq_true rfl) (by simp [mj_recv, rS_f hs2]) rfl (jS_sign (D := D + 1) (rG S N B T X) (s := 650) (by decide) hs2) (fun v' h' hq' => ?_) (fun i h' hq' => by cases hq')
  cases hq'
  rw [show jvu (jvu V 650 (V s)) 651 1 650 = V s from (jvu_ne _ _ _ (by decide)).trans (jvu_at _ _ _)]
  exact mj_T.ret rfl rfl rfl ⟨_, h2, hs2, rfl⟩
theorem ra_sm_loop {S N B X V : Nat → Int} {D x y : Nat} (hx : x ≤ 5) (hy : y ≤ 5) (hN : ∀ j, j < 78 → jR (N j)) (hs : rS S N B T X V h) {Q : mj_R → Prop} (q0 : ¬ (∀ j, j < 13 → N (x * 13 + j) = N (y * 13 + j)) → Q (.inl (some (.int (jn 0))), h)) (q1 : (∀ j, j < 13 → N (x * 13 + j) = N (y * 13 + j)) → Q (.inl (some (.int (jn 1))), h)) :
    ∀ (m k : Nat) (b : Int), k + m = 13 → (b = 0 ∨ b = 1) → (b = 1 → ∀ j, j < k → N (x * 13 + j) = N (y * 13 + j)) → (b = 0 → ¬ ∀ j, j < 13 → N (x * 13 + j) = N (y * 13 + j)) → mj_T D mj_m263 5 [some (.ref 0), some (.int (jn (x : Int))), some (.int (jn (y : Int))), some (.int (jn b)), some (.int (jn (k : Int)))] [] h Q := by
  intro m
  induction m with
  | zero =>
    intro k b hk hb h1 h0
    have hk : k = 13 := by omega
    subst hk
    iterate 2 refine mj_T.pl rfl rfl rfl rfl ?_
    refine mj_T.icmp (a := ((13 : Nat) : Int)) (b := 13) rfl ⟨by decide, by decide⟩ ⟨by decide, by decide⟩ (fun hc => ?_) (fun hc => ?_)
    · refine mj_T.pl rfl rfl rfl rfl ?_
      rcases hb with q | q <;> subst q
      · exact mj_T.ret rfl rfl rfl (q0 (h0 rfl))
      · exact mj_T.ret rfl rfl rfl (q1 (h1 rfl))
    · simp [jc] at hc
  | succ m ih =>
    intro k b hk hb h1 h0
    iterate 2 refine mj_T.pl rfl rfl rfl rfl ?_
    refine mj_T.icmp (a := (k : Int)) (b := 13) rfl ⟨by omega, by omega⟩ ⟨by decide, by decide⟩ (fun hc => ?_) (fun hc => ?_)
    · simp only [jc, decide_eq_true_eq] at hc
      omega
    have t49 : ∀ b2 : Int, (b2 = 0 ∨ b2 = 1) → (b2 = 1 → ∀ j, j < k + 1 → N (x * 13 + j) = N (y * 13 + j)) → (b2 = 0 → ¬ ∀ j, j < 13 → N (x * 13 + j) = N (y * 13 + j)) → mj_T D mj_m263 49 [some (.ref 0), some (.int (jn (x : Int))), some (.int (jn (y : Int))), some (.int (jn b)), some (.int (jn (k : Int)))] [.int (jn b2)] h Q := fun b2 hb2 g1 g0 => by
      refine mj_T.pl rfl rfl rfl rfl ?_
      refine mj_T.iinc (a := (k : Int)) rfl rfl ?_
      refine mj_T.pl rfl rfl rfl rfl ?_
      exact ih (k + 1) b2 (by omega) hb2 g1 g0
    refine mj_T.pl rfl rfl rfl rfl ?_
    refine mj_T.if0 (a := b) rfl ⟨by omega, by omega⟩ (fun hc2 => ?_) (fun hc2 => ?_)
    · refine mj_T.pl rfl rfl rfl rfl ?_
      exact t49 0 (Or.inl rfl) (fun e => absurd e (by decide)) (fun _ => h0 (by simp only [jc, Bool.not_eq_true', Bool.not_eq_false', decide_eq_true_eq, decide_eq_false_iff_not] at hc2; exact hc2))
    refine mj_T.pl rfl rfl rfl rfl ?_
    refine rT_get hs rfl rfl ?_
    iterate 2 refine mj_T.pl rfl rfl rfl rfl ?_
    refine mj_T.imul (a := (x : Int)) (b := 13) rfl ?_
    refine mj_T.pl rfl rfl rfl rfl ?_
    refine mj_T.iadd rfl ?_
    rw [show (x : Int) * 13 + (k : Int) = ((x * 13 + k : Nat) : Int) by omega]
    refine rT_ldN hs rfl ⟨by omega, by omega⟩ ?_
    rw [Int.toNat_natCast]
    refine mj_T.pl rfl rfl rfl rfl ?_
    refine rT_get hs rfl rfl ?_
    iterate 2 refine mj_T.pl rfl rfl rfl rfl ?_
    refine mj_T.imul (a := (y : Int)) (b := 13) rfl ?_
    refine mj_T.pl rfl rfl rfl rfl ?_
    refine mj_T.iadd rfl ?_
    rw [show (y : Int) * 13 + (k : Int) = ((y * 13 + k : Nat) : Int) by omega]
    refine rT_ldN hs rfl ⟨by omega, by omega⟩ ?_
    rw [Int.toNat_natCast]
    refine mj_T.lif (a := N (x * 13 + k)) (b := N (y * 13 + k)) rfl rfl (hN _ (by omega)) (hN _ (by omega)) (fun hc3 => ?_) (fun hc3 => ?_)
    · refine mj_T.pl rfl rfl rfl rfl ?_
      exact t49 0 (Or.inl rfl) (fun e => absurd e (by decide)) (fun _ q => by have q1 := q k (by omega); simp only [jc, Bool.not_eq_true', Bool.not_eq_false', decide_eq_true_eq, decide_eq_false_iff_not] at hc3; exact hc3 q1)
    · iterate 2 refine mj_T.pl rfl rfl rfl rfl ?_
      exact t49 1 (Or.inr rfl) (fun _ j hj => by
        simp only [jc, Bool.not_eq_true', Bool.not_eq_false', decide_eq_true_eq, decide_eq_false_iff_not] at hc2 hc3
        by_cases q : j = k
        · rw [q]
          exact hc3
        · exact h1 (hb.resolve_left hc2) j (by omega)) (fun e => absurd e (by decide))
theorem ra_isSame {x y : Nat} (hx : x ≤ 5) (hy : y ≤ 5) (hN : ∀ j, j < 78 → jR (N j)) (hs : rS S N B T X V h) : mj_Ok (D + 1) 263 [.ref 0, .int (jn (x : Int)), .int (jn (y : Int))] h (fun r => (¬ (∀ j, j < 13 → N (x * 13 + j) = N (y * 13 + j)) ∧ r = (.inl (some (.int (jn 0))), h)) ∨ ((∀ j, j < 13 → N (x * 13 + j) = N (y * 13 + j)) ∧ r = (.inl (some (.int (jn 1))), h))) := by
  refine mj_Ok.of (M := mj_m263) rfl rfl rfl ?_
  iterate 4 refine mj_T.pl rfl rfl rfl rfl ?_
  exact ra_sm_loop (D := D) hx hy hN hs (fun q => Or.inl ⟨q, rfl⟩) (fun q => Or.inr ⟨q, rfl⟩) 13 0 1 (by omega) (Or.inr rfl) (fun _ j hj => absurd hj (by omega)) (fun e => absurd e (by decide))
theorem ra_ex_in {S N B X V : Nat → Int} {D a m R0 : Nat} {t0 : Int} (ha : a ≤ 5) (hN : ∀ j, j < 78 → jR (N j)) (hs : rS S N B T X V h) {Q : mj_R → Prop} (hout : ∀ k, k ≤ 12 → N (a * 13 + k) ≠ 0 → rtm N a (k + 1) = R0 → mj_T D mj_m256 71 [some (.ref 0), some (.int (jn (a : Int))), some (.int (jn (t0 : Int))), some (.int (jn ((k : Int)))), some (.int (jn ((m : Int))))] [] h Q) :
    ∀ k, k ≤ 12 → m + 1 ≤ rtm N a (k + 1) → rtm N a (k + 1) = R0 → mj_T D mj_m256 49 [some (.ref 0), some (.int (jn (a : Int))), some (.int (jn (t0 : Int))), some (.int (jn ((k : Int)))), some (.int (jn ((m : Int))))] [] h Q := by
  intro k
  induction k with
  | zero =>
    intro hk hr hR
    refine mj_T.pl rfl rfl rfl rfl ?_
    refine rT_get hs rfl rfl ?_
    iterate 2 refine mj_T.pl rfl rfl rfl rfl ?_
    refine mj_T.imul (a := (a : Int)) (b := 13) rfl ?_
    refine mj_T.pl rfl rfl rfl rfl ?_
    refine mj_T.iadd rfl ?_
    rw [show (a : Int) * 13 + ((0 : Nat) : Int) = ((a * 13 + 0 : Nat) : Int) by omega]
    refine rT_ldN hs rfl ⟨by omega, by omega⟩ ?_
    rw [Int.toNat_natCast]
    refine mj_T.pl rfl rfl rfl rfl ?_
    refine mj_T.lif (a := N (a * 13 + 0)) (b := 0) rfl rfl (hN _ (by omega)) ⟨by decide, by decide⟩ (fun hc2 => ?_) (fun hc2 => ?_)
    · simp only [jc, Bool.not_eq_true', decide_eq_false_iff_not] at hc2
      exact hout 0 (by omega) hc2 hR
    · simp only [jc, Bool.not_eq_false', decide_eq_true_eq] at hc2
      rw [show rtm N a (0 + 1) = rtm N a 0 from if_pos hc2] at hr
      have : rtm N a 0 = 0 := rfl
      omega
  | succ k ih =>
    intro hk hr hR
    refine mj_T.pl rfl rfl rfl rfl ?_
    refine rT_get hs rfl rfl ?_
    iterate 2 refine mj_T.pl rfl rfl rfl rfl ?_
    refine mj_T.imul (a := (a : Int)) (b := 13) rfl ?_
    refine mj_T.pl rfl rfl rfl rfl ?_
    refine mj_T.iadd rfl ?_
    rw [show (a : Int) * 13 + ((k + 1 : Nat) : Int) = ((a * 13 + (k + 1) : Nat) : Int) by omega]
    refine rT_ldN hs rfl ⟨by omega, by omega⟩ ?_
    rw [Int.toNat_natCast]
    refine mj_T.pl rfl rfl rfl rfl ?_
    refine mj_T.lif (a := N (a * 13 + (k + 1))) (b := 0) rfl rfl (hN _ (by omega)) ⟨by decide, by decide⟩ (fun hc2 => ?_) (fun hc2 => ?_)
    · simp only [jc, Bool.not_eq_true', decide_eq_false_iff_not] at hc2
      exact hout (k + 1) (by omega) hc2 hR
    · simp only [jc, Bool.not_eq_false', decide_eq_true_eq] at hc2
      rw [show rtm N a (k + 1 + 1) = rtm N a (k + 1) from if_pos hc2] at hr hR
      refine mj_T.iinc (a := ((k + 1 : Nat) : Int)) rfl rfl ?_
      refine mj_T.pl rfl rfl rfl rfl ?_
      rw [show ((k + 1 : Nat) : Int) + -1 = (k : Int) by omega]
      exact ih (by omega) hr hR
theorem ra_ex_out {S N B X V : Nat → Int} {D a c : Nat} {t0 : Int} (ha : a ≤ 5) (hN : ∀ j, j < 78 → jR (N j)) (hs : rS S N B T X V h) {Q : mj_R → Prop} (hend : ∀ k : Nat, k ≤ 12 → N (a * 13 + k) ≠ 0 → rtm N a k = c → Q (.inl (some (.int (jn (k : Int)))), h)) :
    ∀ (m k : Nat), k ≤ 13 → rtm N a k = c + m → (m = 0 → k ≤ 12 ∧ N (a * 13 + k) ≠ 0) → mj_T D mj_m256 41 [some (.ref 0), some (.int (jn (a : Int))), some (.int (jn (t0 : Int))), some (.int (jn ((k : Int)))), some (.int (jn ((m : Int) - 1)))] [] h Q := by
  intro m
  induction m with
  | zero =>
    intro k hk hr hz
    refine mj_T.pl rfl rfl rfl rfl ?_
    refine mj_T.if0 (a := ((0 : Nat) : Int) - 1) rfl ⟨by decide, by decide⟩ (fun hc => ?_) (fun hc => ?_)
    · refine mj_T.pl rfl rfl rfl rfl ?_
      exact mj_T.ret rfl rfl rfl (hend k (hz rfl).1 (hz rfl).2 hr)
    · simp [jc] at hc
  | succ m ih =>
    intro k hk hr hz
    refine mj_T.pl rfl rfl rfl rfl ?_
    refine mj_T.if0 (a := ((m + 1 : Nat) : Int) - 1) rfl ⟨by have := rtm_le N a k; omega, by have := rtm_le N a k; omega⟩ (fun hc => ?_) (fun hc => ?_)
    · simp only [jc, decide_eq_true_eq] at hc
      omega
    have hk1 := rtm_le N a k
    obtain ⟨k, rfl⟩ : ∃ k2, k = k2 + 1 := ⟨k - 1, by omega⟩
    rw [show ((m + 1 : Nat) : Int) - 1 = (m : Int) by omega]
    refine mj_T.iinc (a := ((k + 1 : Nat) : Int)) rfl rfl ?_
    rw [show ((k + 1 : Nat) : Int) + -1 = (k : Int) by omega]
    refine ra_ex_in (D := D) (m := m) (t0 := t0) (R0 := c + (m + 1)) ha hN hs (fun k2 hk2 hne hR2 => ?_) k (by omega) (by omega) hr
    refine mj_T.iinc (a := (m : Int)) rfl rfl ?_
    refine mj_T.pl rfl rfl rfl rfl ?_
    exact ih k2 (by omega) (by have e : rtm N a (k2 + 1) = rtm N a k2 + 1 := if_neg hne; omega) (fun _ => ⟨hk2, hne⟩)
end RAV
section RAW
variable {h : mj_H} {tm er : Int} {T : Nat → Int} {N0 : Nat → Int} {u0 : Nat} {H : Nat → Nat → Int}
theorem ra_degree {x : Int} (hx : jr x) (hI : jIx N0 u0 H tm er T h) : mj_Ok 40 253 [.ref 0, .int (jn x)] h (rIa (A_degree N0 x) N0 u0 H tm er T) := by
  refine mj_Ok.of (M := mj_m253) rfl rfl rfl ?_
  obtain ⟨S, N, B, X, V, hs, K⟩ := hI
  iterate 2 refine mj_T.pl rfl rfl rfl rfl ?_
  refine rT_put (v := 0) hs rfl rfl (by decide) rfl (fun g8 hs8 => ?_)
  have K8 := K.put (k := 3) (v := 0) ⟨by decide, by decide⟩ (by decide) (by decide) (by decide) (by decide) (by decide)
  have e8 : jvu S 3 0 3 = 0 := jvu_at S 3 0
  generalize jvu S 3 0 = S8 at hs8 K8 e8
  refine mj_T.pl rfl rfl rfl rfl ?_
  refine mj_T.call (ins := .invokestatic 181) rfl rfl (Nat.le_of_ble_eq_true rfl) (Nat.le_of_ble_eq_true rfl) rfl rfl (mj_Ok.up (by decide) (rp_isRegister (D := 0) hx)) (fun v' h' hq' => ?_) (fun i h' hq' => by rcases hq' with ⟨_, _, h⟩ | ⟨_, h⟩ <;> cases h)
  rcases hq' with ⟨x1, x2, hq'⟩ | ⟨cn, hq'⟩
  case' inr =>
    cases hq'
    refine mj_T.if0 (a := 0) rfl ⟨by decide, by decide⟩ (fun hc => ?_) (fun hc => ?_)
    rotate_left
    · simp [jc] at hc
    iterate 2 refine mj_T.pl rfl rfl rfl rfl ?_
    refine mj_T.call (ins := .invokevirtual 198) rfl rfl (Nat.le_of_ble_eq_true rfl) (Nat.le_of_ble_eq_true rfl) (by simp [mj_recv, rS_f hs8]) rfl (mj_Ok.up (by decide) (rp_fails (D := 0) (c := 1) hs8)) (fun v' g9 hq' => ?_) (fun i h' hq' => by obtain ⟨_, _, h⟩ := hq'; cases h)
    obtain ⟨_, hs9, hq'⟩ := hq'
    cases hq'
    exact mj_T.ret rfl rfl rfl ⟨1, 0, g9, an.n (by omega), ⟨by decide, by decide⟩, rfl, ⟨_, N, B, X, V, hs9, K8.put ⟨by decide, by decide⟩ (by decide) (by decide) (by decide) (by decide) (by decide), jvu_at _ _ _⟩⟩
  cases hq'
  refine mj_T.if0 (a := 1) rfl ⟨by decide, by decide⟩ (fun hc => ?_) (fun hc => ?_)
  · simp [jc] at hc
  obtain ⟨x, rfl⟩ := Int.eq_ofNat_of_zero_le x1
  have hd := jdg_le N x 13
  iterate 2 refine mj_T.pl rfl rfl rfl rfl ?_
  refine mj_T.call (ins := .invokevirtual 185) rfl rfl (Nat.le_of_ble_eq_true rfl) (Nat.le_of_ble_eq_true rfl) (by simp [mj_recv, rS_f hs8]) rfl (mj_Ok.up (by decide) (rp_degreeIn (D := 0) (r := x) (by omega) K8.nR hs8)) (fun v' h' hq' => ?_) (fun i h' hq' => by cases hq')
  cases hq'
  refine mj_T.pl rfl rfl rfl rfl ?_
  exact mj_T.ret rfl rfl rfl ⟨0, _, g8, an.y ⟨by omega, by omega⟩ (an.e (by rw [← fdg_jdg N x 13]; exact dgF.of (fun e he => rwN_at K8.2.1 (by omega) he))), ⟨by omega, by omega⟩, rfl, ⟨S8, N, B, X, V, hs8, K8, e8⟩⟩
theorem ra_terms {x : Int} (hx : jr x) (hI : jIx N0 u0 H tm er T h) : mj_Ok 40 255 [.ref 0, .int (jn x)] h (rIa (A_terms N0 x) N0 u0 H tm er T) := by
  refine mj_Ok.of (M := mj_m255) rfl rfl rfl ?_
  obtain ⟨S, N, B, X, V, hs, K⟩ := hI
  iterate 2 refine mj_T.pl rfl rfl rfl rfl ?_
  refine rT_put (v := 0) hs rfl rfl (by decide) rfl (fun g10 hs10 => ?_)
  have K10 := K.put (k := 3) (v := 0) ⟨by decide, by decide⟩ (by decide) (by decide) (by decide) (by decide) (by decide)
  have e10 : jvu S 3 0 3 = 0 := jvu_at S 3 0
  generalize jvu S 3 0 = S10 at hs10 K10 e10
  refine mj_T.pl rfl rfl rfl rfl ?_
  refine mj_T.call (ins := .invokestatic 181) rfl rfl (Nat.le_of_ble_eq_true rfl) (Nat.le_of_ble_eq_true rfl) rfl rfl (mj_Ok.up (by decide) (rp_isRegister (D := 0) hx)) (fun v' h' hq' => ?_) (fun i h' hq' => by rcases hq' with ⟨_, _, h⟩ | ⟨_, h⟩ <;> cases h)
  rcases hq' with ⟨x1, x2, hq'⟩ | ⟨cn, hq'⟩
  case' inr =>
    cases hq'
    refine mj_T.if0 (a := 0) rfl ⟨by decide, by decide⟩ (fun hc => ?_) (fun hc => ?_)
    rotate_left
    · simp [jc] at hc
    iterate 2 refine mj_T.pl rfl rfl rfl rfl ?_
    refine mj_T.call (ins := .invokevirtual 198) rfl rfl (Nat.le_of_ble_eq_true rfl) (Nat.le_of_ble_eq_true rfl) (by simp [mj_recv, rS_f hs10]) rfl (mj_Ok.up (by decide) (rp_fails (D := 0) (c := 1) hs10)) (fun v' g11 hq' => ?_) (fun i h' hq' => by obtain ⟨_, _, h⟩ := hq'; cases h)
    obtain ⟨_, hs11, hq'⟩ := hq'
    cases hq'
    exact mj_T.ret rfl rfl rfl ⟨1, 0, g11, an.n (by omega), ⟨by decide, by decide⟩, rfl, ⟨_, N, B, X, V, hs11, K10.put ⟨by decide, by decide⟩ (by decide) (by decide) (by decide) (by decide) (by decide), jvu_at _ _ _⟩⟩
  cases hq'
  refine mj_T.if0 (a := 1) rfl ⟨by decide, by decide⟩ (fun hc => ?_) (fun hc => ?_)
  · simp [jc] at hc
  obtain ⟨x, rfl⟩ := Int.eq_ofNat_of_zero_le x1
  have hd := rtm_le N x 13
  iterate 2 refine mj_T.pl rfl rfl rfl rfl ?_
  refine mj_T.call (ins := .invokevirtual 292) rfl rfl (Nat.le_of_ble_eq_true rfl) (Nat.le_of_ble_eq_true rfl) (by simp [mj_recv, rS_f hs10]) rfl (mj_Ok.up (by decide) (rp_termsOf (D := 0) (r := x) (by omega) K10.nR hs10)) (fun v' h' hq' => ?_) (fun i h' hq' => by cases hq')
  cases hq'
  refine mj_T.pl rfl rfl rfl rfl ?_
  exact mj_T.ret rfl rfl rfl ⟨0, _, g10, an.y ⟨by omega, by omega⟩ (an.e (congrArg (fun q : Nat => (q : Int)) (rtm_tmc K10.2.1 (by omega) 13 (Nat.le_refl 13)))), ⟨by omega, by omega⟩, rfl, ⟨S10, N, B, X, V, hs10, K10, e10⟩⟩
theorem ra_coefficient {x y : Int} (hx : jr x) (hy : jr y) (hI : jIx N0 u0 H tm er T h) : mj_Ok 40 257 [.ref 0, .int (jn x), .int (jn y)] h (rIa (A_coefficient N0 x y) N0 u0 H tm er T) := by
  refine mj_Ok.of (M := mj_m257) rfl rfl rfl ?_
  obtain ⟨S, N, B, X, V, hs, K⟩ := hI
  iterate 2 refine mj_T.pl rfl rfl rfl rfl ?_
  refine rT_put (v := 0) hs rfl rfl (by decide) rfl (fun g12 hs12 => ?_)
  have K12 := K.put (k := 3) (v := 0) ⟨by decide, by decide⟩ (by decide) (by decide) (by decide) (by decide) (by decide)
  have e12 : jvu S 3 0 3 = 0 := jvu_at S 3 0
  generalize jvu S 3 0 = S12 at hs12 K12 e12
  refine mj_T.pl rfl rfl rfl rfl ?_
  refine mj_T.call (ins := .invokestatic 181) rfl rfl (Nat.le_of_ble_eq_true rfl) (Nat.le_of_ble_eq_true rfl) rfl rfl (mj_Ok.up (by decide) (rp_isRegister (D := 0) hx)) (fun v' h' hq' => ?_) (fun i h' hq' => by rcases hq' with ⟨_, _, h⟩ | ⟨_, h⟩ <;> cases h)
  rcases hq' with ⟨x1, x2, hq'⟩ | ⟨cn, hq'⟩
  case' inr =>
    cases hq'
    refine mj_T.if0 (a := 0) rfl ⟨by decide, by decide⟩ (fun hc => ?_) (fun hc => ?_)
    · simp [jc] at hc
    iterate 2 refine mj_T.pl rfl rfl rfl rfl ?_
    refine mj_T.call (ins := .invokevirtual 198) rfl rfl (Nat.le_of_ble_eq_true rfl) (Nat.le_of_ble_eq_true rfl) (by simp [mj_recv, rS_f hs12]) rfl (mj_Ok.up (by decide) (rp_fails (D := 0) (c := 1) hs12)) (fun v' g13 hq' => ?_) (fun i h' hq' => by obtain ⟨_, _, h⟩ := hq'; cases h)
    obtain ⟨_, hs13, hq'⟩ := hq'
    cases hq'
    exact mj_T.ret rfl rfl rfl ⟨1, 0, g13, an.n (by omega), ⟨by decide, by decide⟩, rfl, ⟨_, N, B, X, V, hs13, K12.put ⟨by decide, by decide⟩ (by decide) (by decide) (by decide) (by decide) (by decide), jvu_at _ _ _⟩⟩
  cases hq'
  refine mj_T.if0 (a := 1) rfl ⟨by decide, by decide⟩ (fun hc => ?_) (fun hc => ?_)
  rotate_left
  · simp [jc] at hc
  obtain ⟨x, rfl⟩ := Int.eq_ofNat_of_zero_le x1
  refine mj_T.pl rfl rfl rfl rfl ?_
  refine mj_T.i2l rfl hy ?_
  iterate 2 refine mj_T.pl rfl rfl rfl rfl ?_
  refine mj_T.call (ins := .invokestatic 177) rfl rfl (Nat.le_of_ble_eq_true rfl) (Nat.le_of_ble_eq_true rfl) rfl rfl (mj_Ok.up (by decide) (rp_in (D := 0) (v := y) (lo := 0) (hi := 12) ⟨by have := hy.1; omega, by have := hy.2; omega⟩ ⟨by decide, by decide⟩ ⟨by decide, by decide⟩)) (fun v' h' hq' => ?_) (fun i h' hq' => by rcases hq' with ⟨_, _, h⟩ | ⟨_, h⟩ <;> cases h)
  rcases hq' with ⟨r14a, r14b, hq'⟩ | ⟨cn, hq'⟩
  case' inr =>
    cases hq'
    refine mj_T.if0 (a := 0) rfl ⟨by decide, by decide⟩ (fun hc => ?_) (fun hc => ?_)
    · simp [jc] at hc
    iterate 2 refine mj_T.pl rfl rfl rfl rfl ?_
    refine mj_T.call (ins := .invokevirtual 198) rfl rfl (Nat.le_of_ble_eq_true rfl) (Nat.le_of_ble_eq_true rfl) (by simp [mj_recv, rS_f hs12]) rfl (mj_Ok.up (by decide) (rp_fails (D := 0) (c := 2) hs12)) (fun v' g15 hq' => ?_) (fun i h' hq' => by obtain ⟨_, _, h⟩ := hq'; cases h)
    obtain ⟨_, hs15, hq'⟩ := hq'
    cases hq'
    exact mj_T.ret rfl rfl rfl ⟨2, 0, g15, an.y ⟨by omega, by omega⟩ (an.n (by omega)), ⟨by decide, by decide⟩, rfl, ⟨_, N, B, X, V, hs15, K12.put ⟨by decide, by decide⟩ (by decide) (by decide) (by decide) (by decide) (by decide), jvu_at _ _ _⟩⟩
  cases hq'
  refine mj_T.if0 (a := 1) rfl ⟨by decide, by decide⟩ (fun hc => ?_) (fun hc => ?_)
  rotate_left
  · simp [jc] at hc
  obtain ⟨y, rfl⟩ := Int.eq_ofNat_of_zero_le r14a
  iterate 2 refine mj_T.pl rfl rfl rfl rfl ?_
  refine mj_T.pl rfl rfl rfl rfl ?_
  refine rT_get hs12 rfl rfl ?_
  iterate 2 refine mj_T.pl rfl rfl rfl rfl ?_
  refine mj_T.imul (a := (x : Int)) (b := 13) rfl ?_
  refine mj_T.pl rfl rfl rfl rfl ?_
  refine mj_T.iadd rfl ?_
  rw [show (x : Int) * 13 + (y : Int) = ((x * 13 + y : Nat) : Int) by omega]
  refine rT_ldN hs12 rfl ⟨by omega, by omega⟩ ?_
  rw [Int.toNat_natCast]
  refine mj_T.call (ins := .invokevirtual 45) rfl rfl (Nat.le_of_ble_eq_true rfl) (Nat.le_of_ble_eq_true rfl) (by simp [mj_recv, rS_f hs12]) rfl (mj_Ok.up (by decide) (jS_sets (D := 0) (rG S12 N B T X) (s := 652) (v := N (x * 13 + y)) (by decide) (K12.nR _ (by omega)) hs12)) (fun v' g16 hq' => ?_) (fun i h' hq' => by obtain ⟨_, _, h⟩ := hq'; cases h)
  obtain ⟨_, hs16, hq'⟩ := hq'
  cases hq'
  iterate 2 refine mj_T.pl rfl rfl rfl rfl ?_
  refine mj_T.call (ins := .invokevirtual 295) rfl rfl (Nat.le_of_ble_eq_true rfl) (Nat.le_of_ble_eq_true rfl) (by simp [mj_recv, rS_f hs16]) rfl (mj_Ok.up (by decide) (ra_tellsWhole (D := 0) (s := 652) (by decide) hs16)) (fun v' g17 hq' => ?_) (fun i h' hq' => by obtain ⟨_, _, _, h⟩ := hq'; cases h)
  obtain ⟨W17, _, hs17, hq'⟩ := hq'
  cases hq'
  rw [jvu_at]
  have hj := jsg_range (N (x * 13 + y))
  exact mj_T.ret rfl rfl rfl ⟨0, _, g17, an.y ⟨by omega, by omega⟩ (an.y ⟨by omega, by omega⟩ (an.e (by rw [Int.toNat_natCast, ← rwN_at K12.2.1 (r := x) (e := y) (by omega) (by omega)]))), ⟨by omega, by omega⟩, rfl, ⟨S12, N, B, X, W17, hs17, K12, e12⟩⟩
theorem ra_content {x : Int} (hx : jr x) (hI : jIx N0 u0 H tm er T h) : mj_Ok 40 258 [.ref 0, .int (jn x)] h (rIa (A_content N0 x) N0 u0 H tm er T) := by
  refine mj_Ok.of (M := mj_m258) rfl rfl rfl ?_
  obtain ⟨S, N, B, X, V, hs, K⟩ := hI
  iterate 2 refine mj_T.pl rfl rfl rfl rfl ?_
  refine rT_put (v := 0) hs rfl rfl (by decide) rfl (fun g18 hs18 => ?_)
  have K18 := K.put (k := 3) (v := 0) ⟨by decide, by decide⟩ (by decide) (by decide) (by decide) (by decide) (by decide)
  have e18 : jvu S 3 0 3 = 0 := jvu_at S 3 0
  generalize jvu S 3 0 = S18 at hs18 K18 e18
  refine mj_T.pl rfl rfl rfl rfl ?_
  refine mj_T.call (ins := .invokestatic 181) rfl rfl (Nat.le_of_ble_eq_true rfl) (Nat.le_of_ble_eq_true rfl) rfl rfl (mj_Ok.up (by decide) (rp_isRegister (D := 0) hx)) (fun v' h' hq' => ?_) (fun i h' hq' => by rcases hq' with ⟨_, _, h⟩ | ⟨_, h⟩ <;> cases h)
  rcases hq' with ⟨x1, x2, hq'⟩ | ⟨cn, hq'⟩
  case' inr =>
    cases hq'
    refine mj_T.if0 (a := 0) rfl ⟨by decide, by decide⟩ (fun hc => ?_) (fun hc => ?_)
    · simp [jc] at hc
    iterate 2 refine mj_T.pl rfl rfl rfl rfl ?_
    refine mj_T.call (ins := .invokevirtual 198) rfl rfl (Nat.le_of_ble_eq_true rfl) (Nat.le_of_ble_eq_true rfl) (by simp [mj_recv, rS_f hs18]) rfl (mj_Ok.up (by decide) (rp_fails (D := 0) (c := 1) hs18)) (fun v' g19 hq' => ?_) (fun i h' hq' => by obtain ⟨_, _, h⟩ := hq'; cases h)
    obtain ⟨_, hs19, hq'⟩ := hq'
    cases hq'
    exact mj_T.ret rfl rfl rfl ⟨1, 0, g19, an.n (by omega), ⟨by decide, by decide⟩, rfl, ⟨_, N, B, X, V, hs19, K18.put ⟨by decide, by decide⟩ (by decide) (by decide) (by decide) (by decide) (by decide), jvu_at _ _ _⟩⟩
  cases hq'
  refine mj_T.if0 (a := 1) rfl ⟨by decide, by decide⟩ (fun hc => ?_) (fun hc => ?_)
  rotate_left
  · simp [jc] at hc
  obtain ⟨x, rfl⟩ := Int.eq_ofNat_of_zero_le x1
  iterate 3 refine mj_T.pl rfl rfl rfl rfl ?_
  refine mj_T.call (ins := .invokevirtual 213) rfl rfl (Nat.le_of_ble_eq_true rfl) (Nat.le_of_ble_eq_true rfl) (by simp [mj_recv, rS_f hs18]) rfl (mj_Ok.up (by decide) (rp_loads (D := 0) (p := 0) (r := x) (by decide) (by omega) K18.nR hs18)) (fun v' g20 hq' => ?_) (fun i h' hq' => by obtain ⟨_, _, h⟩ := hq'; cases h)
  obtain ⟨_, hs20, hq'⟩ := hq'
  cases hq'
  have a20 : ∀ e, e < 13 → jfl V 0 (fun e => N (x * 13 + e)) 13 (0 * 13 + e) = N (x * 13 + e) := fun e he => jfl_at _ _ _ he
  have b20 : ∀ s, (s < 0 * 13 ∨ 0 * 13 + 13 ≤ s) → jfl V 0 (fun e => N (x * 13 + e)) 13 s = V s := fun s hc => jfl_off _ _ _ hc
  generalize jfl V 0 (fun e => N (x * 13 + e)) 13 = W20 at hs20 a20 b20
  iterate 3 refine mj_T.pl rfl rfl rfl rfl ?_
  refine mj_T.call (ins := .invokevirtual 130) rfl rfl (Nat.le_of_ble_eq_true rfl) (Nat.le_of_ble_eq_true rfl) (by simp [mj_recv, rS_f hs20]) rfl (mj_Ok.up (by decide) (jp_contents (D := 0) (rG S18 N B T X) (to := 661) (p := 0) (by decide) (by decide) (by decide) (by decide) (by decide) (by decide) (by decide) hs20)) (fun v' g21 hq' => ?_) (fun i h' hq' => by obtain ⟨_, _, _, _, _, h⟩ := hq'; cases h)
  obtain ⟨W21, _, hs21, p1, _, hq'⟩ := hq'
  cases hq'
  iterate 2 refine mj_T.pl rfl rfl rfl rfl ?_
  refine mj_T.call (ins := .invokevirtual 295) rfl rfl (Nat.le_of_ble_eq_true rfl) (Nat.le_of_ble_eq_true rfl) (by simp [mj_recv, rS_f hs21]) rfl (mj_Ok.up (by decide) (ra_tellsWhole (D := 0) (s := 661) (by decide) hs21)) (fun v' g22 hq' => ?_) (fun i h' hq' => by obtain ⟨_, _, _, h⟩ := hq'; cases h)
  obtain ⟨W22, _, hs22, hq'⟩ := hq'
  cases hq'
  rw [p1, jgk_cgd (f := rwN N0 (x : Int)) (fun e he => (a20 e he).trans (rwN_at K18.2.1 (by omega) he))]
  have hj := jsg_range ((cgd (rwN N0 (x : Int)) 13 : Nat) : Int)
  exact mj_T.ret rfl rfl rfl ⟨0, _, g22, an.y ⟨by omega, by omega⟩ (an.e rfl), ⟨by omega, by omega⟩, rfl, ⟨S18, N, B, X, W22, hs22, K18, e18⟩⟩
theorem ra_areSame {x y : Int} (hx : jr x) (hy : jr y) (hI : jIx N0 u0 H tm er T h) : mj_Ok 40 264 [.ref 0, .int (jn x), .int (jn y)] h (rIa (A_areSame N0 x y) N0 u0 H tm er T) := by
  refine mj_Ok.of (M := mj_m264) rfl rfl rfl ?_
  obtain ⟨S, N, B, X, V, hs, K⟩ := hI
  have t19 : ¬ rg2 x y → mj_T 39 mj_m264 19 [some (.ref 0), some (.int (jn x)), some (.int (jn y))] [.ref 0] h (rIa (A_areSame N0 x y) N0 u0 H tm er T) := by
    intro hno
    refine mj_T.pl rfl rfl rfl rfl ?_
    refine rT_put (v := 1) hs rfl rfl (by decide) rfl (fun g1 hs1 => ?_)
    refine mj_T.pl rfl rfl rfl rfl ?_
    refine rT_get (v := .int (jn 1)) hs1 rfl (by rw [← jvu_at S 3 1]; rfl) ?_
    refine mj_T.if0 (a := 1) rfl ⟨by decide, by decide⟩ (fun hc => ?_) (fun hc => ?_)
    rotate_left
    · simp [jc] at hc
    refine mj_T.pl rfl rfl rfl rfl ?_
    exact mj_T.ret rfl rfl rfl ⟨1, 0, g1, an.n hno, ⟨by decide, by decide⟩, rfl, ⟨_, N, B, X, V, hs1, K.put ⟨by decide, by decide⟩ (by decide) (by decide) (by decide) (by decide) (by decide), jvu_at _ _ _⟩⟩
  refine mj_T.pl rfl rfl rfl rfl ?_
  refine mj_T.pl rfl rfl rfl rfl ?_
  refine mj_T.call (ins := .invokestatic 181) rfl rfl (Nat.le_of_ble_eq_true rfl) (Nat.le_of_ble_eq_true rfl) rfl rfl (mj_Ok.up (by decide) (rp_isRegister (D := 0) hx)) (fun v' h' hq' => ?_) (fun i h' hq' => by rcases hq' with ⟨_, _, h⟩ | ⟨_, h⟩ <;> cases h)
  rcases hq' with ⟨x1, x2, hq'⟩ | ⟨cn, hq'⟩
  case' inr =>
    cases hq'
    refine mj_T.if0 (a := 0) rfl ⟨by decide, by decide⟩ (fun hc => ?_) (fun hc => ?_)
    · exact t19 (fun q => by have q1 := q.1; have q2 := q.2; omega)
    · simp [jc] at hc
  cases hq'
  refine mj_T.if0 (a := 1) rfl ⟨by decide, by decide⟩ (fun hc => ?_) (fun hc => ?_)
  · simp [jc] at hc
  refine mj_T.pl rfl rfl rfl rfl ?_
  refine mj_T.call (ins := .invokestatic 181) rfl rfl (Nat.le_of_ble_eq_true rfl) (Nat.le_of_ble_eq_true rfl) rfl rfl (mj_Ok.up (by decide) (rp_isRegister (D := 0) hy)) (fun v' h' hq' => ?_) (fun i h' hq' => by rcases hq' with ⟨_, _, h⟩ | ⟨_, h⟩ <;> cases h)
  rcases hq' with ⟨y1, y2, hq'⟩ | ⟨cn, hq'⟩
  case' inr =>
    cases hq'
    refine mj_T.if0 (a := 0) rfl ⟨by decide, by decide⟩ (fun hc => ?_) (fun hc => ?_)
    · exact t19 (fun q => by have q1 := q.1; have q2 := q.2; omega)
    · simp [jc] at hc
  cases hq'
  refine mj_T.if0 (a := 1) rfl ⟨by decide, by decide⟩ (fun hc => ?_) (fun hc => ?_)
  · simp [jc] at hc
  clear t19
  iterate 2 refine mj_T.pl rfl rfl rfl rfl ?_
  refine rT_put (v := 0) hs rfl rfl (by decide) rfl (fun g1 hs1 => ?_)
  have K1 := K.put (k := 3) (v := 0) ⟨by decide, by decide⟩ (by decide) (by decide) (by decide) (by decide) (by decide)
  refine mj_T.pl rfl rfl rfl rfl ?_
  refine rT_get (v := .int (jn 0)) hs1 rfl (by rw [← jvu_at S 3 0]; rfl) ?_
  have e1 : jvu S 3 0 3 = 0 := jvu_at S 3 0
  generalize jvu S 3 0 = S1 at hs1 K1 e1
  refine mj_T.if0 (a := 0) rfl ⟨by decide, by decide⟩ (fun hc => ?_) (fun hc => ?_)
  · simp [jc] at hc
  obtain ⟨x, rfl⟩ := Int.eq_ofNat_of_zero_le x1
  obtain ⟨y, rfl⟩ := Int.eq_ofNat_of_zero_le y1
  iterate 3 refine mj_T.pl rfl rfl rfl rfl ?_
  refine mj_T.call (ins := .invokevirtual 311) rfl rfl (Nat.le_of_ble_eq_true rfl) (Nat.le_of_ble_eq_true rfl) (by simp [mj_recv, rS_f hs1]) rfl (mj_Ok.up (by decide) (ra_isSame (D := 0) (x := x) (y := y) (by omega) (by omega) K1.nR hs1)) (fun v' h' hq' => ?_) (fun i h' hq' => by rcases hq' with ⟨_, h⟩ | ⟨_, h⟩ <;> cases h)
  rcases hq' with ⟨hsm, hq'⟩ | ⟨hsm, hq'⟩
  · cases hq'
    refine mj_T.if0 (a := 0) rfl ⟨by decide, by decide⟩ (fun hc => ?_) (fun hc => ?_)
    rotate_left
    · simp [jc] at hc
    refine mj_T.pl rfl rfl rfl rfl ?_
    exact mj_T.ret rfl rfl rfl ⟨0, 0, _, an.y ⟨⟨by omega, by omega⟩, ⟨by omega, by omega⟩⟩ (an.e (Or.inr ⟨rfl, fun q => hsm (fun j hj => (rwN_at K1.2.1 (r := x) (by omega) hj).trans ((q j hj).trans (rwN_at K1.2.1 (r := y) (by omega) hj).symm))⟩)), ⟨by decide, by decide⟩, rfl, ⟨_, _, _, _, _, hs1, K1, e1⟩⟩
  · cases hq'
    refine mj_T.if0 (a := 1) rfl ⟨by decide, by decide⟩ (fun hc => ?_) (fun hc => ?_)
    · simp [jc] at hc
    iterate 2 refine mj_T.pl rfl rfl rfl rfl ?_
    exact mj_T.ret rfl rfl rfl ⟨0, 1, _, an.y ⟨⟨by omega, by omega⟩, ⟨by omega, by omega⟩⟩ (an.e (Or.inl ⟨rfl, fun j hj => (rwN_at K1.2.1 (r := x) (by omega) hj).symm.trans ((hsm j hj).trans (rwN_at K1.2.1 (r := y) (by omega) hj))⟩)), ⟨by decide, by decide⟩, rfl, ⟨_, _, _, _, _, hs1, K1, e1⟩⟩
theorem ra_exponent {x y : Int} (hx : jr x) (hy : jr y) (hI : jIx N0 u0 H tm er T h) : mj_Ok 40 256 [.ref 0, .int (jn x), .int (jn y)] h (rIa (A_exponent N0 x y) N0 u0 H tm er T) := by
  refine mj_Ok.of (M := mj_m256) rfl rfl rfl ?_
  obtain ⟨S, N, B, X, V, hs, K⟩ := hI
  iterate 2 refine mj_T.pl rfl rfl rfl rfl ?_
  refine rT_put (v := 0) hs rfl rfl (by decide) rfl (fun g1 hs1 => ?_)
  have K1 := K.put (k := 3) (v := 0) ⟨by decide, by decide⟩ (by decide) (by decide) (by decide) (by decide) (by decide)
  have e1 : jvu S 3 0 3 = 0 := jvu_at S 3 0
  generalize jvu S 3 0 = S1 at hs1 K1 e1
  have t29 : ¬ ((0 ≤ x ∧ x ≤ 5) ∧ 0 ≤ y ∧ y < (tmc (rwN N0 x) 13 : Int)) → mj_T 39 mj_m256 29 [some (.ref 0), some (.int (jn x)), some (.int (jn y)), none, none] [] g1 (rIa (A_exponent N0 x y) N0 u0 H tm er T) := by
    intro hno
    iterate 2 refine mj_T.pl rfl rfl rfl rfl ?_
    refine mj_T.call (ins := .invokevirtual 198) rfl rfl (Nat.le_of_ble_eq_true rfl) (Nat.le_of_ble_eq_true rfl) (by simp [mj_recv, rS_f hs1]) rfl (mj_Ok.up (by decide) (rp_fails (D := 0) (c := 1) hs1)) (fun v' g2 hq' => ?_) (fun i h' hq' => by obtain ⟨_, _, h⟩ := hq'; cases h)
    obtain ⟨_, hs2, hq'⟩ := hq'
    cases hq'
    exact mj_T.ret rfl rfl rfl ⟨1, 0, g2, an.n hno, ⟨by decide, by decide⟩, rfl, ⟨_, N, B, X, V, hs2, K1.put ⟨by decide, by decide⟩ (by decide) (by decide) (by decide) (by decide) (by decide), jvu_at _ _ _⟩⟩
  refine mj_T.pl rfl rfl rfl rfl ?_
  refine mj_T.call (ins := .invokestatic 181) rfl rfl (Nat.le_of_ble_eq_true rfl) (Nat.le_of_ble_eq_true rfl) rfl rfl (mj_Ok.up (by decide) (rp_isRegister (D := 0) hx)) (fun v' h' hq' => ?_) (fun i h' hq' => by rcases hq' with ⟨_, _, h⟩ | ⟨_, h⟩ <;> cases h)
  rcases hq' with ⟨x1, x2, hq'⟩ | ⟨cn, hq'⟩
  case' inr =>
    cases hq'
    refine mj_T.if0 (a := 0) rfl ⟨by decide, by decide⟩ (fun hc => ?_) (fun hc => ?_)
    · exact t29 (fun q => by have q1 := q.1; omega)
    · simp [jc] at hc
  cases hq'
  refine mj_T.if0 (a := 1) rfl ⟨by decide, by decide⟩ (fun hc => ?_) (fun hc => ?_)
  · simp [jc] at hc
  obtain ⟨x, rfl⟩ := Int.eq_ofNat_of_zero_le x1
  have hrt := rtm_le N x 13
  have hrm := rtm_tmc K1.2.1 (x := x) (by omega)
  have h13 : (tmc (rwN N0 (x : Int)) 13 : Int) = (rtm N x 13 : Int) := congrArg (fun q : Nat => (q : Int)) (hrm 13 (Nat.le_refl 13)).symm
  refine mj_T.pl rfl rfl rfl rfl ?_
  refine mj_T.i2l rfl hy ?_
  iterate 3 refine mj_T.pl rfl rfl rfl rfl ?_
  refine mj_T.call (ins := .invokevirtual 292) rfl rfl (Nat.le_of_ble_eq_true rfl) (Nat.le_of_ble_eq_true rfl) (by simp [mj_recv, rS_f hs1]) rfl (mj_Ok.up (by decide) (rp_termsOf (D := 0) (r := x) (by omega) K1.nR hs1)) (fun v' h' hq' => ?_) (fun i h' hq' => by cases hq')
  cases hq'
  refine mj_T.pl rfl rfl rfl rfl ?_
  refine mj_T.isub (a := ((rtm N x 13 : Nat) : Int)) (b := 1) rfl ?_
  refine mj_T.i2l rfl ⟨by omega, by omega⟩ ?_
  refine mj_T.call (ins := .invokestatic 177) rfl rfl (Nat.le_of_ble_eq_true rfl) (Nat.le_of_ble_eq_true rfl) rfl rfl (mj_Ok.up (by decide) (rp_in (D := 0) (v := y) (lo := 0) (hi := ((rtm N x 13 : Nat) : Int) - 1) ⟨by have := hy.1; omega, by have := hy.2; omega⟩ ⟨by decide, by decide⟩ ⟨by omega, by omega⟩)) (fun v' h' hq' => ?_) (fun i h' hq' => by rcases hq' with ⟨_, _, h⟩ | ⟨_, h⟩ <;> cases h)
  rcases hq' with ⟨y1, y2, hq'⟩ | ⟨cn, hq'⟩
  case' inr =>
    cases hq'
    refine mj_T.if0 (a := 0) rfl ⟨by decide, by decide⟩ (fun hc => ?_) (fun hc => ?_)
    · simp [jc] at hc
    · exact t29 (fun q => by have q2 := q.2; omega)
  cases hq'
  refine mj_T.if0 (a := 1) rfl ⟨by decide, by decide⟩ (fun hc => ?_) (fun hc => ?_)
  rotate_left
  · simp [jc] at hc
  obtain ⟨y, rfl⟩ := Int.eq_ofNat_of_zero_le y1
  iterate 4 refine mj_T.pl rfl rfl rfl rfl ?_
  have fin := ra_ex_out (D := 39) (a := x) (c := rtm N x 13 - (y + 1)) (t0 := (y : Int)) (by omega) K1.nR hs1 (Q := rIa (A_exponent N0 (x : Int) (y : Int)) N0 u0 H tm er T) (fun k hk hne hc => ⟨0, (k : Int), _, an.y ⟨⟨by omega, by omega⟩, by omega, by omega⟩ (an.e ⟨k, rfl, by omega, by rw [← rwN_at K1.2.1 (r := x) (e := k) (by omega) (by omega)]; exact hne, by
    have e1 : rtm N x (k + 1) = rtm N x k + 1 := if_neg hne
    have e2 := hrm (k + 1) (by omega)
    omega⟩), ⟨by omega, by omega⟩, rfl, ⟨_, _, _, _, _, hs1, K1, e1⟩⟩) (y + 1) 13 (by omega) (by omega) (fun q => absurd q (by omega))
  rw [show ((y + 1 : Nat) : Int) - 1 = (y : Int) by omega] at fin
  exact fin
end RAW
section RAG
variable {h : mj_H} {u : Nat} {N : Nat → Int} {H : Nat → Nat → Int} {tm er : Int} {T : Nat → Int}
theorem ga_degree {x : Int} (jx : jr x) (I : jIx N u H tm er T h) : mj_Ok 60 253 [.ref 0, .int (jn x)] h (rZa (sameQ N u H) (A_degree N x) tm er T) := (mj_Ok.up (by decide) (ra_degree jx I)).to (fun r k => k.za)
theorem ga_terms {x : Int} (jx : jr x) (I : jIx N u H tm er T h) : mj_Ok 60 255 [.ref 0, .int (jn x)] h (rZa (sameQ N u H) (A_terms N x) tm er T) := (mj_Ok.up (by decide) (ra_terms jx I)).to (fun r k => k.za)
theorem ga_exponent {x : Int} (jx : jr x) {y : Int} (jy : jr y) (I : jIx N u H tm er T h) : mj_Ok 60 256 [.ref 0, .int (jn x), .int (jn y)] h (rZa (sameQ N u H) (A_exponent N x y) tm er T) := (mj_Ok.up (by decide) (ra_exponent jx jy I)).to (fun r k => k.za)
theorem ga_coefficient {x : Int} (jx : jr x) {y : Int} (jy : jr y) (I : jIx N u H tm er T h) : mj_Ok 60 257 [.ref 0, .int (jn x), .int (jn y)] h (rZa (sameQ N u H) (A_coefficient N x y) tm er T) := (mj_Ok.up (by decide) (ra_coefficient jx jy I)).to (fun r k => k.za)
theorem ga_content {x : Int} (jx : jr x) (I : jIx N u H tm er T h) : mj_Ok 60 258 [.ref 0, .int (jn x)] h (rZa (sameQ N u H) (A_content N x) tm er T) := (mj_Ok.up (by decide) (ra_content jx I)).to (fun r k => k.za)
theorem ga_areSame {x : Int} (jx : jr x) {y : Int} (jy : jr y) (I : jIx N u H tm er T h) : mj_Ok 60 264 [.ref 0, .int (jn x), .int (jn y)] h (rZa (sameQ N u H) (A_areSame N x y) tm er T) := (mj_Ok.up (by decide) (ra_areSame jx jy I)).to (fun r k => k.za)
end RAG
