/-! The reference's small methods. -/
theorem jS_700 {hp h : mj_H} {q1 q2 q3 : Nat} {V : Nat → Int} (hs : jS hp q1 q2 q3 V h) {s : Nat} (hl : s < 665) : jnl (V s).natAbs ≤ 700 := by
  obtain ⟨bg, ov, db, hV, _⟩ := hs
  exact (hV s hl).2.2.2
section RSM
variable {S N B T X V : Nat → Int} {h : mj_H} {D : Nat}
theorem rp_in {v lo hi : Int} (h1 : jR v) (h2 : jR lo) (h3 : jR hi) : mj_Ok (D + 1) 177 [.long (jl v), .long (jl lo), .long (jl hi)] h (fun r => (lo ≤ v ∧ v ≤ hi ∧ r = (.inl (some (.int (jn 1))), h)) ∨ ((v < lo ∨ hi < v) ∧ r = (.inl (some (.int (jn 0))), h))) := by
  refine mj_Ok.of (M := mj_m177) rfl rfl rfl ?_
  iterate 2 refine mj_T.pl rfl rfl rfl rfl ?_
  refine mj_T.lif (a := v) (b := lo) rfl rfl h1 h2 (fun hc => ?_) (fun hc => ?_)
  · simp only [jc, decide_eq_true_eq] at hc
    refine mj_T.pl rfl rfl rfl rfl ?_
    exact mj_T.ret rfl rfl rfl (Or.inr ⟨Or.inl hc, rfl⟩)
  simp only [jc, decide_eq_false_iff_not] at hc
  iterate 2 refine mj_T.pl rfl rfl rfl rfl ?_
  refine mj_T.lif (a := v) (b := hi) rfl rfl h1 h3 (fun hc2 => ?_) (fun hc2 => ?_)
  · simp only [jc, decide_eq_true_eq] at hc2
    refine mj_T.pl rfl rfl rfl rfl ?_
    exact mj_T.ret rfl rfl rfl (Or.inr ⟨Or.inr hc2, rfl⟩)
  · simp only [jc, decide_eq_false_iff_not] at hc2
    iterate 2 refine mj_T.pl rfl rfl rfl rfl ?_
    exact mj_T.ret rfl rfl rfl (Or.inl ⟨by omega, by omega, rfl⟩)
theorem rp_isRegister {x : Int} (hx : jr x) : mj_Ok (D + 2) 223 [.int (jn x)] h (fun r => (0 ≤ x ∧ x ≤ 5 ∧ r = (.inl (some (.int (jn 1))), h)) ∨ ((x < 0 ∨ 5 < x) ∧ r = (.inl (some (.int (jn 0))), h))) := by
  refine mj_Ok.of (M := mj_m223) rfl rfl rfl ?_
  refine mj_T.pl rfl rfl rfl rfl ?_
  refine mj_T.i2l rfl hx ?_
  iterate 2 refine mj_T.pl rfl rfl rfl rfl ?_
  refine mj_T.call (ins := .invokestatic 177) rfl rfl (Nat.le_of_ble_eq_true rfl) (Nat.le_of_ble_eq_true rfl) rfl rfl (rp_in (D := D) (v := x) (lo := 0) (hi := 5) ⟨by have := hx.1; omega, by have := hx.2; omega⟩ ⟨by decide, by decide⟩ ⟨by decide, by decide⟩) (fun v' h1 hq' => ?_) (fun i h' hq' => by rcases hq' with ⟨_, _, h⟩ | ⟨_, h⟩ <;> cases h)
  rcases hq' with ⟨c1, c2, hq'⟩ | ⟨c1, hq'⟩
  · cases hq'
    exact mj_T.ret rfl rfl rfl (Or.inl ⟨c1, c2, rfl⟩)
  · cases hq'
    exact mj_T.ret rfl rfl rfl (Or.inr ⟨c1, rfl⟩)
theorem rp_areRegisters {x y z : Int} (hx : jr x) (hy : jr y) (hz : jr z) : mj_Ok (D + 3) 224 [.int (jn x), .int (jn y), .int (jn z)] h (fun r => ((0 ≤ x ∧ x ≤ 5) ∧ (0 ≤ y ∧ y ≤ 5 ∧ 0 ≤ z ∧ z ≤ 5) ∧ r = (.inl (some (.int (jn 1))), h)) ∨ (True ∧ r = (.inl (some (.int (jn 0))), h))) := by
  refine mj_Ok.of (M := mj_m224) rfl rfl rfl ?_
  refine mj_T.pl rfl rfl rfl rfl ?_
  refine mj_T.call (ins := .invokestatic 181) rfl rfl (Nat.le_of_ble_eq_true rfl) (Nat.le_of_ble_eq_true rfl) rfl rfl (rp_isRegister (D := D) hx) (fun v' h1 hq' => ?_) (fun i h' hq' => by rcases hq' with ⟨_, _, h⟩ | ⟨_, h⟩ <;> cases h)
  rcases hq' with ⟨x1, x2, hq'⟩ | ⟨_, hq'⟩
  case' inr =>
    cases hq'
    refine mj_T.if0 (a := 0) rfl ⟨by decide, by decide⟩ (fun hc => ?_) (fun hc => ?_)
    · refine mj_T.pl rfl rfl rfl rfl ?_
      exact mj_T.ret rfl rfl rfl (Or.inr ⟨trivial, rfl⟩)
    · simp [jc] at hc
  cases hq'
  refine mj_T.if0 (a := 1) rfl ⟨by decide, by decide⟩ (fun hc => ?_) (fun hc => ?_)
  · simp [jc] at hc
  refine mj_T.pl rfl rfl rfl rfl ?_
  refine mj_T.call (ins := .invokestatic 181) rfl rfl (Nat.le_of_ble_eq_true rfl) (Nat.le_of_ble_eq_true rfl) rfl rfl (rp_isRegister (D := D) hy) (fun v' h1 hq' => ?_) (fun i h' hq' => by rcases hq' with ⟨_, _, h⟩ | ⟨_, h⟩ <;> cases h)
  rcases hq' with ⟨y1, y2, hq'⟩ | ⟨_, hq'⟩
  case' inr =>
    cases hq'
    refine mj_T.if0 (a := 0) rfl ⟨by decide, by decide⟩ (fun hc => ?_) (fun hc => ?_)
    · refine mj_T.pl rfl rfl rfl rfl ?_
      exact mj_T.ret rfl rfl rfl (Or.inr ⟨trivial, rfl⟩)
    · simp [jc] at hc
  cases hq'
  refine mj_T.if0 (a := 1) rfl ⟨by decide, by decide⟩ (fun hc => ?_) (fun hc => ?_)
  · simp [jc] at hc
  refine mj_T.pl rfl rfl rfl rfl ?_
  refine mj_T.call (ins := .invokestatic 181) rfl rfl (Nat.le_of_ble_eq_true rfl) (Nat.le_of_ble_eq_true rfl) rfl rfl (rp_isRegister (D := D) hz) (fun v' h1 hq' => ?_) (fun i h' hq' => by rcases hq' with ⟨_, _, h⟩ | ⟨_, h⟩ <;> cases h)
  rcases hq' with ⟨z1, z2, hq'⟩ | ⟨_, hq'⟩
  case' inr =>
    cases hq'
    refine mj_T.if0 (a := 0) rfl ⟨by decide, by decide⟩ (fun hc => ?_) (fun hc => ?_)
    · refine mj_T.pl rfl rfl rfl rfl ?_
      exact mj_T.ret rfl rfl rfl (Or.inr ⟨trivial, rfl⟩)
    · simp [jc] at hc
  cases hq'
  refine mj_T.if0 (a := 1) rfl ⟨by decide, by decide⟩ (fun hc => ?_) (fun hc => ?_)
  · simp [jc] at hc
  iterate 2 refine mj_T.pl rfl rfl rfl rfl ?_
  exact mj_T.ret rfl rfl rfl (Or.inl ⟨⟨x1, x2⟩, ⟨y1, y2, z1, z2⟩, rfl⟩)
theorem rp_fails {c : Int} (hs : rS S N B T X V h) : mj_Ok (D + 1) 176 [.ref 0, .int (jn c)] h (fun r => ∃ h', rS (jvu S 3 c) N B T X V h' ∧ r = (.inl (some (.int (jn 0))), h')) := by
  refine mj_Ok.of (M := mj_m176) rfl rfl rfl ?_
  iterate 2 refine mj_T.pl rfl rfl rfl rfl ?_
  refine rT_put (v := c) hs rfl rfl (by decide) rfl (fun h1 hs1 => ?_)
  refine mj_T.pl rfl rfl rfl rfl ?_
  exact mj_T.ret rfl rfl rfl ⟨h1, hs1, rfl⟩
theorem rp_dgi_loop {r : Nat} (hr : r ≤ 5) (hN : ∀ j, j < 78 → jR (N j)) (hs : rS S N B T X V h) {Q : mj_R → Prop} (hend : Q (.inl (some (.int (jn ((jdg N r 13 : Int) - 1)))), h)) :
    ∀ m : Nat, m ≤ 13 → (∀ e, m ≤ e → e < 13 → N (r * 13 + e) = 0) → mj_T D mj_m226 3 [some (.ref 0), some (.int (jn (r : Nat))), some (.int (jn ((m : Int) - 1)))] [] h Q := by
  intro m
  induction m with
  | zero =>
    intro _ hz
    have e0 : jdg N r 13 = 0 := by
      have := jdg_of_zero (W := N) (p := r) (d := 0) (k := 13) (fun e _ he => hz e (by omega) he)
      omega
    rw [e0] at hend
    refine mj_T.pl rfl rfl rfl rfl ?_
    refine mj_T.if0 (a := ((0 : Nat) : Int) - 1) rfl ⟨by decide, by decide⟩ (fun hc => ?_) (fun hc => ?_)
    · refine mj_T.pl rfl rfl rfl rfl ?_
      exact mj_T.ret rfl rfl rfl hend
    · simp [jc] at hc
  | succ m ih =>
    intro hm hz
    refine mj_T.pl rfl rfl rfl rfl ?_
    refine mj_T.if0 (a := ((m + 1 : Nat) : Int) - 1) rfl ⟨by omega, by omega⟩ (fun hc => ?_) (fun hc => ?_)
    · simp only [jc, decide_eq_true_eq] at hc
      omega
    refine mj_T.pl rfl rfl rfl rfl ?_
    refine rT_get hs rfl rfl ?_
    iterate 2 refine mj_T.pl rfl rfl rfl rfl ?_
    refine mj_T.imul (a := (r : Int)) (b := 13) rfl ?_
    refine mj_T.pl rfl rfl rfl rfl ?_
    refine mj_T.iadd rfl ?_
    rw [show (r : Int) * 13 + (((m + 1 : Nat) : Int) - 1) = ((r * 13 + m : Nat) : Int) by omega]
    refine rT_ldN hs rfl ⟨by omega, by omega⟩ ?_
    rw [Int.toNat_natCast]
    refine mj_T.pl rfl rfl rfl rfl ?_
    refine mj_T.lif (a := N (r * 13 + m)) (b := 0) rfl rfl (hN _ (by omega)) ⟨by decide, by decide⟩ (fun hc2 => ?_) (fun hc2 => ?_)
    · simp only [jc, Bool.not_eq_true', decide_eq_false_iff_not] at hc2
      have e1 : jdg N r 13 = m + 1 := by
        have h1 := jdg_of_zero (W := N) (p := r) (d := m + 1) (k := 13) hz
        have h2 := jdg_le N r 13
        rcases Nat.lt_or_ge (jdg N r 13) (m + 1) with c | c
        · exact absurd (jdg_zero N r 13 m (by omega) (by omega)) hc2
        · omega
      rw [e1] at hend
      refine mj_T.pl rfl rfl rfl rfl ?_
      exact mj_T.ret rfl rfl rfl hend
    · simp only [jc, Bool.not_eq_false', decide_eq_true_eq] at hc2
      refine mj_T.iinc (a := ((m + 1 : Nat) : Int) - 1) rfl rfl ?_
      refine mj_T.pl rfl rfl rfl rfl ?_
      rw [show ((m + 1 : Nat) : Int) - 1 + -1 = (m : Int) - 1 by omega]
      refine ih (by omega) (fun e h1 h2 => ?_)
      by_cases q : e = m
      · subst q
        exact hc2
      · exact hz e (by omega) h2
theorem rp_degreeIn {r : Nat} (hr : r ≤ 5) (hN : ∀ j, j < 78 → jR (N j)) (hs : rS S N B T X V h) : mj_Ok (D + 1) 226 [.ref 0, .int (jn (r : Nat))] h (fun z => z = (.inl (some (.int (jn ((jdg N r 13 : Int) - 1)))), h)) := by
  refine mj_Ok.of (M := mj_m226) rfl rfl rfl ?_
  iterate 2 refine mj_T.pl rfl rfl rfl rfl ?_
  exact rp_dgi_loop (D := D) hr hN hs (Q := fun z => z = (.inl (some (.int (jn ((jdg N r 13 : Int) - 1)))), h)) rfl 13 (by decide) (fun e h1 h2 => by omega)
theorem rp_isZero {r : Nat} (hr : r ≤ 5) (hN : ∀ j, j < 78 → jR (N j)) (hs : rS S N B T X V h) : mj_Ok (D + 2) 225 [.ref 0, .int (jn (r : Nat))] h (fun z => (jdg N r 13 = 0 ∧ z = (.inl (some (.int (jn 1))), h)) ∨ (1 ≤ jdg N r 13 ∧ z = (.inl (some (.int (jn 0))), h))) := by
  have hd := jdg_le N r 13
  refine mj_Ok.of (M := mj_m225) rfl rfl rfl ?_
  iterate 2 refine mj_T.pl rfl rfl rfl rfl ?_
  refine mj_T.call (ins := .invokevirtual 185) rfl rfl (Nat.le_of_ble_eq_true rfl) (Nat.le_of_ble_eq_true rfl) (by simp [mj_recv, rS_f hs]) rfl (rp_degreeIn (D := D) hr hN hs) (fun v' h' hq' => ?_) (fun i h' hq' => by cases hq')
  cases hq'
  refine mj_T.if0 (a := (jdg N r 13 : Int) - 1) rfl ⟨by omega, by omega⟩ (fun hc => ?_) (fun hc => ?_)
  · simp only [jc, decide_eq_true_eq] at hc
    refine mj_T.pl rfl rfl rfl rfl ?_
    exact mj_T.ret rfl rfl rfl (Or.inr ⟨by omega, rfl⟩)
  · simp only [jc, decide_eq_false_iff_not] at hc
    iterate 2 refine mj_T.pl rfl rfl rfl rfl ?_
    exact mj_T.ret rfl rfl rfl (Or.inl ⟨by omega, rfl⟩)
theorem rp_loads_loop {p r : Nat} (hp : p ≤ 50) (hr : r ≤ 5) (hN : ∀ j, j < 78 → jR (N j)) {Q : mj_R → Prop} (hend : ∀ h, rS S N B T X (jfl V p (fun e => N (r * 13 + e)) 13) h → Q (.inl none, h)) :
    ∀ (d k : Nat) (h : mj_H), k + d = 13 → rS S N B T X (jfl V p (fun e => N (r * 13 + e)) k) h → mj_T (D + 1) mj_m199 2 [some (.ref 0), some (.int (jn (p : Nat))), some (.int (jn (r : Nat))), some (.int (jn (k : Nat)))] [] h Q := by
  intro d
  induction d with
  | zero =>
    intro k h hk hs
    have hk : k = 13 := by omega
    subst hk
    iterate 2 refine mj_T.pl rfl rfl rfl rfl ?_
    refine mj_T.icmp (a := ((13 : Nat) : Int)) (b := 13) rfl ⟨by decide, by decide⟩ ⟨by decide, by decide⟩ (fun hc => ?_) (fun hc => ?_)
    · exact mj_T.ret rfl rfl rfl (hend h hs)
    · simp [jc] at hc
  | succ d ih =>
    intro k h hk hs
    iterate 2 refine mj_T.pl rfl rfl rfl rfl ?_
    refine mj_T.icmp (a := (k : Int)) (b := 13) rfl ⟨by omega, by omega⟩ ⟨by decide, by decide⟩ (fun hc => ?_) (fun hc => ?_)
    · simp only [jc, decide_eq_true_eq] at hc
      omega
    iterate 3 refine mj_T.pl rfl rfl rfl rfl ?_
    refine mj_T.call (ins := .invokestatic 104) rfl rfl (Nat.le_of_ble_eq_true rfl) (Nat.le_of_ble_eq_true rfl) rfl rfl (jq_slot (D := D) (p := p) (i := k)) (fun v' h' hq' => ?_) (fun i h' hq' => by cases hq')
    cases hq'
    refine mj_T.pl rfl rfl rfl rfl ?_
    refine rT_get hs rfl rfl ?_
    iterate 2 refine mj_T.pl rfl rfl rfl rfl ?_
    refine mj_T.imul (a := (r : Int)) (b := 13) rfl ?_
    refine mj_T.pl rfl rfl rfl rfl ?_
    refine mj_T.iadd rfl ?_
    rw [show (r : Int) * 13 + ((k : Nat) : Int) = ((r * 13 + k : Nat) : Int) by omega]
    refine rT_ldN hs rfl ⟨by omega, by omega⟩ ?_
    rw [Int.toNat_natCast]
    refine mj_T.call (ins := .invokevirtual 45) rfl rfl (Nat.le_of_ble_eq_true rfl) (Nat.le_of_ble_eq_true rfl) (by simp [mj_recv, rS_f hs]) rfl (jS_sets (D := D) (rG S N B T X) (s := p * 13 + k) (v := N (r * 13 + k)) (by omega) (hN _ (by omega)) hs) (fun v' h1 hq' => ?_) (fun i h' hq' => by obtain ⟨_, _, h⟩ := hq'; cases h)
    obtain ⟨_, hs1, hq'⟩ := hq'
    cases hq'
    refine mj_T.iinc (a := k) rfl rfl ?_
    refine mj_T.pl rfl rfl rfl rfl ?_
    exact ih (k + 1) h1 (by omega) (hs1.to (jfl_succ _ _ _ _))
theorem rp_loads {p r : Nat} (hp : p ≤ 50) (hr : r ≤ 5) (hN : ∀ j, j < 78 → jR (N j)) (hs : rS S N B T X V h) : mj_Ok (D + 2) 199 [.ref 0, .int (jn (p : Nat)), .int (jn (r : Nat))] h (fun z => ∃ h', rS S N B T X (jfl V p (fun e => N (r * 13 + e)) 13) h' ∧ z = (.inl none, h')) := by
  refine mj_Ok.of (M := mj_m199) rfl rfl rfl ?_
  iterate 2 refine mj_T.pl rfl rfl rfl rfl ?_
  exact rp_loads_loop (D := D) hp hr hN (fun h k => ⟨h, k, rfl⟩) 13 0 h rfl (hs.to (jfl_zero _ _ _))
theorem rp_asLong_loop {s : Nat} (hl : s < 665) (hs : rS S N B T X V h) {Q : mj_R → Prop} (hend : Q (.inl (some (.long (jl (V s)))), h)) :
    ∀ m : Nat, m ≤ 700 → mj_T (D + 2) mj_m195 11 [some (.ref 0), some (.int (jn (s : Nat))), some (.long (jl (((V s).natAbs / jB ^ m : Nat) : Int))), none, some (.int (jn ((m : Int) - 1)))] [] h Q := by
  intro m
  induction m with
  | zero =>
    intro _
    refine mj_T.pl rfl rfl rfl rfl ?_
    refine mj_T.if0 (a := ((0 : Nat) : Int) - 1) rfl ⟨by decide, by decide⟩ (fun hc => ?_) (fun hc => ?_)
    · iterate 2 refine mj_T.pl rfl rfl rfl rfl ?_
      refine mj_T.call (ins := .invokevirtual 68) rfl rfl (Nat.le_of_ble_eq_true rfl) (Nat.le_of_ble_eq_true rfl) (by simp [mj_recv, rS_f hs]) rfl (jS_sign (D := D + 1) (rG S N B T X) (s := s) hl hs) (fun v' h' hq' => ?_) (fun i h' hq' => by cases hq')
      cases hq'
      have hr := jsg_range (V s)
      rw [Nat.pow_zero, Nat.div_one]
      refine mj_T.if0 (a := jsg (V s)) rfl ⟨by omega, by omega⟩ (fun hc2 => ?_) (fun hc2 => ?_)
      · simp only [jc, decide_eq_true_eq] at hc2
        have hp : ((V s).natAbs : Int) = V s := by
          rcases (show V s < 0 ∨ 0 ≤ V s by omega) with c | c
          · rw [jsg_neg c] at hc2
            omega
          · omega
        rw [hp]
        refine mj_T.pl rfl rfl rfl rfl ?_
        exact mj_T.ret rfl rfl rfl hend
      · simp only [jc, decide_eq_false_iff_not] at hc2
        have hp : -((V s).natAbs : Int) = V s := by
          rcases (show V s < 0 ∨ V s = 0 ∨ 0 < V s by omega) with c | c | c
          · omega
          · rw [c] at hc2
            exact absurd (by decide) hc2
          · rw [jsg_pos c] at hc2
            exact absurd (by decide) hc2
        refine mj_T.pl rfl rfl rfl rfl ?_
        refine mj_T.lneg rfl ?_
        rw [hp]
        refine mj_T.pl rfl rfl rfl rfl ?_
        exact mj_T.ret rfl rfl rfl hend
    · simp [jc] at hc
  | succ m ih =>
    intro hm
    refine mj_T.pl rfl rfl rfl rfl ?_
    refine mj_T.if0 (a := ((m + 1 : Nat) : Int) - 1) rfl ⟨by omega, by omega⟩ (fun hc => ?_) (fun hc => ?_)
    · simp only [jc, decide_eq_true_eq] at hc
      omega
    rw [show ((m + 1 : Nat) : Int) - 1 = (m : Int) by omega]
    iterate 2 refine mj_T.pl rfl rfl rfl rfl ?_
    refine mj_T.lmul (b := 1000000000) rfl ?_
    iterate 3 refine mj_T.pl rfl rfl rfl rfl ?_
    refine mj_T.call (ins := .invokevirtual 64) rfl rfl (Nat.le_of_ble_eq_true rfl) (Nat.le_of_ble_eq_true rfl) (by simp [mj_recv, rS_f hs]) rfl (jS_limb (D := D) (rG S N B T X) (s := s) (j := m) hl (by omega) hs) (fun v' h' hq' => ?_) (fun i h' hq' => by cases hq')
    cases hq'
    have hlb := jlb_lt (V s).natAbs m
    refine mj_T.i2l rfl ⟨by omega, by omega⟩ ?_
    refine mj_T.ladd rfl ?_
    have e : (((V s).natAbs / jB ^ (m + 1) : Nat) : Int) * 1000000000 + ((jlb (V s).natAbs m : Nat) : Int) = (((V s).natAbs / jB ^ m : Nat) : Int) := by
      have e1 : (V s).natAbs / jB ^ (m + 1) = (V s).natAbs / jB ^ m / 1000000000 := by rw [Nat.pow_succ, ← Nat.div_div_eq_div_mul]
      have e2 : jlb (V s).natAbs m = (V s).natAbs / jB ^ m % 1000000000 := rfl
      rw [e1, e2]
      omega
    rw [e]
    refine mj_T.pl rfl rfl rfl rfl ?_
    refine mj_T.iinc (a := (m : Int)) rfl rfl ?_
    refine mj_T.pl rfl rfl rfl rfl ?_
    exact ih (by omega)
theorem rp_asLong {s : Nat} (hl : s < 665) (hs : rS S N B T X V h) : mj_Ok (D + 3) 195 [.ref 0, .int (jn (s : Nat))] h (fun z => z = (.inl (some (.long (jl (V s)))), h)) := by
  have h7 := jS_700 hs hl
  have e0 : (V s).natAbs / jB ^ jnl (V s).natAbs = 0 := jnl_le.mp (Nat.le_refl _)
  refine mj_Ok.of (M := mj_m195) rfl rfl rfl ?_
  iterate 4 refine mj_T.pl rfl rfl rfl rfl ?_
  refine mj_T.call (ins := .invokevirtual 52) rfl rfl (Nat.le_of_ble_eq_true rfl) (Nat.le_of_ble_eq_true rfl) (by simp [mj_recv, rS_f hs]) rfl (jS_length (D := D + 1) (rG S N B T X) (s := s) hl hs) (fun v' h' hq' => ?_) (fun i h' hq' => by cases hq')
  cases hq'
  refine mj_T.pl rfl rfl rfl rfl ?_
  refine mj_T.isub (b := 1) rfl ?_
  refine mj_T.pl rfl rfl rfl rfl ?_
  have k := rp_asLong_loop (D := D) hl hs (Q := fun z => z = (.inl (some (.long (jl (V s)))), h)) rfl (jnl (V s).natAbs) h7
  rw [e0] at k
  exact k
theorem rp_stores_loop {p r : Nat} (hp : p ≤ 50) (hr : r ≤ 5) {Q : mj_R → Prop} (hend : ∀ h, rS S (jfl N r (fun e => V (p * 13 + e)) 13) B T X V h → Q (.inl none, h)) :
    ∀ (d k : Nat) (h : mj_H), k + d = 13 → rS S (jfl N r (fun e => V (p * 13 + e)) k) B T X V h → mj_T (D + 3) mj_m228 2 [some (.ref 0), some (.int (jn (r : Nat))), some (.int (jn (p : Nat))), some (.int (jn (k : Nat)))] [] h Q := by
  intro d
  induction d with
  | zero =>
    intro k h hk hs
    have hk : k = 13 := by omega
    subst hk
    iterate 2 refine mj_T.pl rfl rfl rfl rfl ?_
    refine mj_T.icmp (a := ((13 : Nat) : Int)) (b := 13) rfl ⟨by decide, by decide⟩ ⟨by decide, by decide⟩ (fun hc => ?_) (fun hc => ?_)
    · exact mj_T.ret rfl rfl rfl (hend h hs)
    · simp [jc] at hc
  | succ d ih =>
    intro k h hk hs
    iterate 2 refine mj_T.pl rfl rfl rfl rfl ?_
    refine mj_T.icmp (a := (k : Int)) (b := 13) rfl ⟨by omega, by omega⟩ ⟨by decide, by decide⟩ (fun hc => ?_) (fun hc => ?_)
    · simp only [jc, decide_eq_true_eq] at hc
      omega
    refine mj_T.pl rfl rfl rfl rfl ?_
    refine rT_get hs rfl rfl ?_
    iterate 2 refine mj_T.pl rfl rfl rfl rfl ?_
    refine mj_T.imul (a := (r : Int)) (b := 13) rfl ?_
    refine mj_T.pl rfl rfl rfl rfl ?_
    refine mj_T.iadd rfl ?_
    rw [show (r : Int) * 13 + ((k : Nat) : Int) = ((r * 13 + k : Nat) : Int) by omega]
    iterate 3 refine mj_T.pl rfl rfl rfl rfl ?_
    refine mj_T.call (ins := .invokestatic 104) rfl rfl (Nat.le_of_ble_eq_true rfl) (Nat.le_of_ble_eq_true rfl) rfl rfl (jq_slot (D := D + 2) (p := p) (i := k)) (fun v' h' hq' => ?_) (fun i h' hq' => by cases hq')
    cases hq'
    refine mj_T.call (ins := .invokevirtual 191) rfl rfl (Nat.le_of_ble_eq_true rfl) (Nat.le_of_ble_eq_true rfl) (by simp [mj_recv, rS_f hs]) rfl (rp_asLong (D := D) (s := p * 13 + k) (by omega) hs) (fun v' h' hq' => ?_) (fun i h' hq' => by cases hq')
    cases hq'
    refine rT_stN hs rfl ⟨by omega, by omega⟩ (fun h1 hs1 => ?_)
    rw [Int.toNat_natCast] at hs1
    refine mj_T.iinc (a := k) rfl rfl ?_
    refine mj_T.pl rfl rfl rfl rfl ?_
    refine ih (k + 1) h1 (by omega) ?_
    rw [jfl_succ]
    exact hs1
theorem rp_stores {p r : Nat} (hp : p ≤ 50) (hr : r ≤ 5) (hs : rS S N B T X V h) : mj_Ok (D + 4) 228 [.ref 0, .int (jn (r : Nat)), .int (jn (p : Nat))] h (fun z => ∃ h', rS S (jfl N r (fun e => V (p * 13 + e)) 13) B T X V h' ∧ z = (.inl none, h')) := by
  refine mj_Ok.of (M := mj_m228) rfl rfl rfl ?_
  iterate 2 refine mj_T.pl rfl rfl rfl rfl ?_
  exact rp_stores_loop (D := D) hp hr (fun h k => ⟨h, k, rfl⟩) 13 0 h rfl (by rw [jfl_zero]; exact hs)
end RSM
