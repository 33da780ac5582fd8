/-! The class's reader, exactly: exponents, powers, products, sums. -/
section JRE
variable {D tm n : Nat} {T : Nat → Int} {g h h' : mj_H} {a e : Int}
theorem rdgp_pos {s k : Nat} (h : rdgp T tm s = s + k) : (1 ≤ k ↔ (s < tm ∧ 48 ≤ T s ∧ T s ≤ 57)) := by
  by_cases c : s < tm
  · have e1 : tm - s = (tm - s - 1) + 1 := by omega
    have h2 : rdg T (tm - s - 1 + 1) s = s + k := by rw [← e1]; exact h
    have h3 : rdg T (tm - s - 1 + 1) s = if 48 ≤ T s ∧ T s ≤ 57 then rdg T (tm - s - 1) (s + 1) else s := rfl
    rw [h3] at h2
    by_cases d : 48 ≤ T s ∧ T s ≤ 57
    · rw [if_pos d] at h2
      have := rdg_ge (T := T) (tm - s - 1) (s + 1)
      exact ⟨fun _ => ⟨c, d⟩, fun _ => by omega⟩
    · rw [if_neg d] at h2
      exact ⟨fun q => by omega, fun q => absurd q.2 d⟩
  · have h2 : rdg T (tm - s) s = s + k := h
    rw [show tm - s = 0 by omega] at h2
    have h2 : s = s + k := h2
    exact ⟨fun q => by omega, fun q => absurd q.1 c⟩
/-- how a piece of the reading ends -/
def rQ (T : Nat → Int) (tm : Nat) (g : mj_H) (n a : Nat) (res : Bool × Nat) (V : Option Value → Prop) (r : mj_R) : Prop := ∃ (v : Option Value) (b : Nat) (h2 : mj_H), r = (.inl v, h2) ∧ V v ∧ b ≤ tm ∧ ((res.1 = true ∧ b = res.2 ∧ a ≤ b ∧ rR g n (b : Int) (-1) h2) ∨ (res.1 = false ∧ res.2 ≤ tm ∧ rR g n (b : Int) (res.2 : Int) h2))
def rV (v : Option Value) : Prop := ∃ z : Int, (-1 ≤ z ∧ z ≤ 12) ∧ v = some (.int (jn z))
theorem rQ.le {a a' : Nat} {res : Bool × Nat} {V : Option Value → Prop} {r : mj_R} (q : rQ T tm g n a' res V r) (hl : a ≤ a') : rQ T tm g n a res V r := by
  obtain ⟨v, b, h2, q1, q2, q3, q4⟩ := q
  refine ⟨v, b, h2, q1, q2, q3, ?_⟩
  rcases q4 with ⟨x1, x2, x3, x4⟩ | x
  · exact Or.inl ⟨x1, x2, by omega, x4⟩
  · exact Or.inr x
theorem rq_exponent {p : Nat} (hB : jBuf tm T g) (ht : tm ≤ 200) (hT : ∀ j : Nat, j < tm → 1 ≤ T j ∧ T j ≤ 255) (hp : p ≤ tm) (s : rR g n (p : Int) (-1) h) : mj_Ok (D + 3) 53 [.ref 455] h (rQ T tm g n p (rnm T tm 12 p) rV) := by
  refine mj_Ok.of (M := mj_m53) (loc := [some (.ref 455), none, none, none]) rfl rfl rfl ?_
  have hle := rskp_le (T := T) hp
  have hge := rskp_ge (T := T) (tm := tm) p
  refine mj_T.pl rfl rfl rfl rfl ?_
  refine mj_T.call rfl rfl (Nat.le_of_ble_eq_true rfl) (Nat.le_of_ble_eq_true rfl) (s.rv (by decide) rfl _) rfl (rq_skips (D := D) hB ht hT hp s) (fun v h1 hq => ?_) (fun i h1 hq => by obtain ⟨_, _, hq⟩ := hq; cases hq)
  obtain ⟨_, s1, hq⟩ := hq
  cases hq
  obtain ⟨q, hqd⟩ : ∃ q, rskp T tm p = q := ⟨_, rfl⟩
  have eN : rnm T tm 12 p = if (1 ≤ rdgp T tm q - q ∧ rdgp T tm q - q ≤ 18) ∧ rvl T q (rdgp T tm q - q) ≤ 12 then (true, rdgp T tm q) else (false, q) := by
    unfold rnm
    rw [hqd]
  rw [eN]
  rw [hqd] at s1 hle hge
  refine mj_T.pl rfl rfl rfl rfl ?_
  refine rr_g s1 rfl (fun t => rfl) ?_
  refine mj_T.pl (loc' := [some (.ref 455), some (.int (jn (q : Int))), none, none]) rfl rfl rfl rfl ?_
  refine mj_T.pl rfl rfl rfl rfl ?_
  refine rr_g s1 rfl (fun t => rfl) ?_
  refine mj_T.pl rfl rfl rfl rfl ?_
  refine rr_g s1 rfl (fun t => rfl) ?_
  refine rr_at (D := D + 1) s1 hB ht hT (by omega) rfl rfl (Nat.le_of_ble_eq_true rfl) ?_
  have hb := rvt_bd (tm := tm) hT q
  refine mj_T.call rfl rfl (Nat.le_of_ble_eq_true rfl) (Nat.le_of_ble_eq_true rfl) rfl rfl (rq_isDigit (D := D + 1) (v := rvt T tm q) ⟨by omega, by omega⟩) (fun v' h' hq' => ?_) (fun i h' hq' => by rcases hq' with ⟨_, h⟩ | ⟨_, h⟩ <;> cases h)
  rcases hq' with ⟨hd, hq'⟩ | ⟨hd, hq'⟩
  · cases hq'
    have hdig : q < tm ∧ 48 ≤ T q ∧ T q ≤ 57 := by
      unfold rvt at hd
      by_cases c : q < tm
      · rw [if_pos c] at hd
        exact ⟨c, hd⟩
      · rw [if_neg c] at hd
        omega
    refine mj_T.if0 (a := 1) rfl ⟨by decide, by decide⟩ (fun _ => ?_) (fun hc2 => by simp [jc] at hc2)
    refine mj_T.pl rfl rfl rfl rfl ?_
    refine mj_T.call rfl rfl (Nat.le_of_ble_eq_true rfl) (Nat.le_of_ble_eq_true rfl) (s1.rv (by decide) rfl _) rfl (rq_number (D := D) hB ht hT hle s1) (fun v h2 hq => ?_) (fun i h2 hq => by obtain ⟨_, _, _, _, ⟨_, _, hq⟩ | ⟨_, _, hq⟩⟩ := hq <;> cases hq)
    obtain ⟨k, h3, k1, k2, hq⟩ := hq
    have kp := (rdgp_pos k1).mpr hdig
    rw [k1, Nat.add_sub_cancel_left]
    have hin : ∀ j, q ≤ j → j < q + k → 48 ≤ T j ∧ T j ≤ 57 := fun j j1 j2 => rdg_in (T := T) (tm - q) q j j1 (by show j < rdgp T tm q; omega)
    have hbd := rvl_bd (T := T) (s := q) k hin
    rcases hq with ⟨k3, s3, hq⟩ | ⟨k3, s3, hq⟩
    · cases hq
      have hpw : 10 ^ k ≤ 10 ^ 18 := Nat.pow_le_pow_right (by decide) (by omega)
      have hj : jR (rvl T q k) := ⟨by omega, by omega⟩
      refine mj_T.pl (loc' := [some (.ref 455), some (.int (jn (q : Int))), some (.long (jl (rvl T q k))), none]) rfl rfl rfl rfl ?_
      refine mj_T.pl rfl rfl rfl rfl ?_
      refine mj_T.pl rfl rfl rfl rfl ?_
      refine mj_T.eq (st2 := [.long (jl 12), .long (jl (rvl T q k))]) ?_ rfl rfl rfl rfl
      refine mj_T.lif (a := rvl T q k) (b := 12) rfl rfl hj ⟨by decide, by decide⟩ (fun c => ?_) (fun c => ?_)
      · simp only [jc, decide_eq_true_eq] at c
        refine mj_T.pl rfl rfl rfl rfl ?_
        refine mj_T.l2i rfl ?_
        refine mj_T.ret rfl rfl rfl ⟨_, q + k, _, rfl, ⟨rvl T q k, ⟨by omega, by omega⟩, rfl⟩, k2, Or.inl ?_⟩
        rw [if_pos ⟨⟨kp, k3⟩, c⟩]
        exact ⟨rfl, rfl, by omega, s3⟩
      · simp only [jc, decide_eq_false_iff_not] at c
        iterate 2 refine mj_T.pl rfl rfl rfl rfl ?_
        refine rr_p3 s3 rfl (fun h4 s4 => ?_)
        refine mj_T.pl rfl rfl rfl rfl ?_
        refine mj_T.ret rfl rfl rfl ⟨_, q + k, h4, rfl, ⟨-1, ⟨by decide, by decide⟩, rfl⟩, k2, Or.inr ?_⟩
        rw [if_neg (fun w => c w.2)]
        exact ⟨rfl, hle, s4⟩
    · cases hq
      refine mj_T.pl (loc' := [some (.ref 455), some (.int (jn (q : Int))), some (.long (jl 0)), none]) rfl rfl rfl rfl ?_
      refine mj_T.pl rfl rfl rfl rfl ?_
      refine mj_T.pl rfl rfl rfl rfl ?_
      refine mj_T.eq (st2 := [.long (jl 12), .long (jl 0)]) ?_ rfl rfl rfl rfl
      refine mj_T.lif (a := 0) (b := 12) rfl rfl ⟨by decide, by decide⟩ ⟨by decide, by decide⟩ (fun c => ?_) (fun c => by simp [jc] at c)
      refine mj_T.pl rfl rfl rfl rfl ?_
      refine mj_T.l2i rfl ?_
      refine mj_T.ret rfl rfl rfl ⟨_, q + k, _, rfl, ⟨0, ⟨by decide, by decide⟩, rfl⟩, k2, Or.inr ?_⟩
      rw [if_neg (fun w => by omega)]
      exact ⟨rfl, hle, s3⟩
  · cases hq'
    obtain ⟨k, k1⟩ : ∃ k, rdgp T tm q = q + k := ⟨rdgp T tm q - q, by have w : q ≤ rdgp T tm q := rdg_ge (T := T) (tm - q) q; omega⟩
    have k0 : ¬ (1 ≤ k) := fun w => by
      have d := (rdgp_pos k1).mp w
      exact hd (by rw [show rvt T tm q = T q from if_pos d.1]; exact d.2)
    refine mj_T.if0 (a := 0) rfl ⟨by decide, by decide⟩ (fun hc2 => by simp [jc] at hc2) (fun _ => ?_)
    iterate 2 refine mj_T.pl rfl rfl rfl rfl ?_
    refine rr_g s1 rfl (fun t => rfl) ?_
    refine rr_p3 s1 rfl (fun h2 s2 => ?_)
    refine mj_T.pl rfl rfl rfl rfl ?_
    refine mj_T.ret rfl rfl rfl ⟨_, q, h2, rfl, ⟨-1, ⟨by decide, by decide⟩, rfl⟩, hle, Or.inr ?_⟩
    rw [k1, Nat.add_sub_cancel_left, if_neg (fun w => k0 w.1.1)]
    exact ⟨rfl, hle, s2⟩
theorem kR : cK0 456 = 6 ∧ cK0 466 = 6 ∧ cK0 476 = 2 ∧ cK0 19 = 11 := by decide +kernel
/-- the end of a power: what stands behind it -/
theorem rq_fin {a p : Nat} {l1 : Option Value} (hB : jBuf tm T g) (ht : tm ≤ 200) (hT : ∀ j : Nat, j < tm → 1 ≤ T j ∧ T j ≤ 255) (hp : p ≤ tm) (hap : a ≤ p) (s : rR g n (p : Int) (-1) h) : mj_T (D + 4) mj_m52 135 [some (.ref 455), l1] [] h (rQ T tm g n a (rex T tm p) rV) := by
  have hge := rskp_ge (T := T) (tm := tm) p
  have hle := rskp_le (T := T) hp
  refine mj_T.pl rfl rfl rfl rfl ?_
  refine rr_g s rfl (fun t => rfl) ?_
  refine mj_T.pl rfl rfl rfl rfl ?_
  refine mj_T.icmp (a := -1) (b := -1) rfl ⟨by decide, by decide⟩ ⟨by decide, by decide⟩ (fun c => absurd c (by decide)) (fun _ => ?_)
  iterate 2 refine mj_T.pl rfl rfl rfl rfl ?_
  refine mj_T.call rfl rfl (Nat.le_of_ble_eq_true rfl) (Nat.le_of_ble_eq_true rfl) (s.rv (by decide) rfl _) rfl (rq_takes (D := D + 1) (c := 94) ⟨by decide, by decide⟩ hB ht hT hp s) (fun v h1 hq => ?_) (fun i h1 hq => by rcases hq with ⟨_, _, _, _, hq⟩ | ⟨_, _, _, hq⟩ <;> cases hq)
  rcases hq with ⟨b, _, ⟨b1, b2, b3⟩, s1, hq⟩ | ⟨_, b1, s1, hq⟩
  · cases hq
    refine mj_T.if0 (a := 1) rfl ⟨by decide, by decide⟩ (fun hc2 => by simp [jc] at hc2) (fun _ => ?_)
    refine mj_T.pl rfl rfl rfl rfl ?_
    have er : rex T tm p = rnm T tm 12 b := by unfold rex; rw [b1]
    rw [er]
    refine mj_T.call rfl rfl (Nat.le_of_ble_eq_true rfl) (Nat.le_of_ble_eq_true rfl) (s1.rv (by decide) rfl _) rfl (rq_exponent (D := D + 1) hB ht hT b2 s1) (fun v h2 hq => ?_) (fun i h2 hq => by obtain ⟨_, _, _, hq, _⟩ := hq; cases hq)
    obtain ⟨v2, c, h3, hq, hv, c1, c2⟩ := hq
    obtain ⟨z, hz, rfl⟩ := hv
    cases hq
    refine mj_T.pl rfl rfl rfl rfl ?_
    refine mj_T.ret rfl rfl rfl (rQ.le ⟨_, c, _, rfl, ⟨z, hz, rfl⟩, c1, c2⟩ (by omega))
  · cases hq
    refine mj_T.if0 (a := 0) rfl ⟨by decide, by decide⟩ (fun _ => ?_) (fun hc2 => by simp [jc] at hc2)
    have er : rex T tm p = (true, rskp T tm p) := by unfold rex; rw [b1]
    rw [er]
    refine mj_T.pl rfl rfl rfl rfl ?_
    exact mj_T.ret rfl rfl rfl ⟨_, rskp T tm p, h1, rfl, ⟨-1, ⟨by decide, by decide⟩, rfl⟩, hle, Or.inl ⟨rfl, rfl, by omega, s1⟩⟩
theorem rq_finE {a p x : Nat} {l1 : Option Value} (ht : tm ≤ 200) (hp : p ≤ tm) (hx : x ≤ tm) (s : rR g n (p : Int) (x : Int) h) : mj_T (D + 4) mj_m52 135 [some (.ref 455), l1] [] h (rQ T tm g n a (false, x) rV) := by
  refine mj_T.pl rfl rfl rfl rfl ?_
  refine rr_g s rfl (fun t => rfl) ?_
  refine mj_T.pl rfl rfl rfl rfl ?_
  refine mj_T.icmp (a := (x : Int)) (b := -1) rfl ⟨by omega, by omega⟩ ⟨by decide, by decide⟩ (fun _ => ?_) (fun c => ?_)
  · refine mj_T.pl rfl rfl rfl rfl ?_
    exact mj_T.ret rfl rfl rfl ⟨_, p, h, rfl, ⟨-1, ⟨by decide, by decide⟩, rfl⟩, hp, Or.inr ⟨rfl, hx, s⟩⟩
  · simp only [jc, Bool.not_eq_false', decide_eq_true_eq] at c
    omega
def rV0 (v : Option Value) : Prop := v = none
/-- a power at depth d (so many parentheses may still be opened), out of the sums of the next depth -/
theorem rq_factor {d a f : Nat} {res : Bool × Nat} (hB : jBuf tm T g) (ht : tm ≤ 200) (hT : ∀ j : Nat, j < tm → 1 ≤ T j ∧ T j ≤ 255) (hd : d ≤ 8) {E : Nat} (hE : 5 ≤ E)
    (ih : ∀ d', d = d' + 1 → ∀ (f p : Nat) (h : mj_H) (res : Bool × Nat), p ≤ tm → rpr0 T tm f 3 d' p = some res → rR g n (p : Int) (-1) h → mj_Ok E 49 [.ref 455, .int (jn (8 - (d' : Int)))] h (rQ T tm g n p res rV0))
    (ha : a ≤ tm) (hf : rpr0 T tm f 0 d a = some res) (s : rR g n (a : Int) (-1) h) : mj_Ok (E + 1) 52 [.ref 455, .int (jn (8 - (d : Int)))] h (rQ T tm g n a res rV) := by
  obtain ⟨E0, rfl⟩ : ∃ E0, E = E0 + 5 := ⟨E - 5, by omega⟩
  have hge := rskp_ge (T := T) (tm := tm) a
  have hle := rskp_le (T := T) ha
  have hid := rskp_idem (T := T) ha
  obtain ⟨f, rfl⟩ : ∃ f0, f = f0 + 1 := by
    cases f with
    | zero => cases hf
    | succ f0 => exact ⟨f0, rfl⟩
  refine mj_Ok.of (M := mj_m52) (loc := [some (.ref 455), some (.int (jn (8 - (d : Int))))]) rfl rfl rfl ?_
  refine mj_T.pl rfl rfl rfl rfl ?_
  refine rr_g s rfl (fun t => rfl) ?_
  refine rr_c s rfl rfl (Nat.le_of_ble_eq_true rfl) (Nat.le_of_ble_eq_true rfl) rfl rfl (mj_Ok.up (by omega) (jc_165 (D := 0) cTY0 (Nat.le_of_eq s.1.1) s.1 kR.2.2.1)) (fun v h0 hv s => ?_)
  cases hv
  refine mj_T.pl rfl rfl rfl rfl ?_
  refine mj_T.call rfl rfl (Nat.le_of_ble_eq_true rfl) (Nat.le_of_ble_eq_true rfl) (s.rv (by decide) rfl _) rfl (mj_Ok.up (by omega) (rq_skips (D := 0) hB ht hT ha s)) (fun v h1 hq => ?_) (fun i h1 hq => by obtain ⟨_, _, hq⟩ := hq; cases hq)
  obtain ⟨_, s1, hq⟩ := hq
  cases hq
  unfold rpr0 at hf
  obtain ⟨q, hqd⟩ : ∃ q, rskp T tm a = q := ⟨_, rfl⟩
  rw [hqd] at s1 hle hge hid hf
  refine mj_T.pl rfl rfl rfl rfl ?_
  refine rr_g s1 rfl (fun t => rfl) ?_
  refine mj_T.pl rfl rfl rfl rfl ?_
  refine rr_g s1 rfl (fun t => rfl) ?_
  refine rr_at (D := E0 + 4) s1 hB ht hT (by omega) rfl rfl (Nat.le_of_ble_eq_true rfl) ?_
  have hb := rvt_bd (tm := tm) hT q
  refine mj_T.call rfl rfl (Nat.le_of_ble_eq_true rfl) (Nat.le_of_ble_eq_true rfl) rfl rfl (rq_isDigit (D := E0 + 4) (v := rvt T tm q) ⟨by omega, by omega⟩) (fun v' h' hq' => ?_) (fun i h' hq' => by rcases hq' with ⟨_, h⟩ | ⟨_, h⟩ <;> cases h)
  rcases hq' with ⟨hdg, hq'⟩ | ⟨hdg, hq'⟩
  · -- a number
    cases hq'
    have hdig : q < tm ∧ 48 ≤ T q ∧ T q ≤ 57 := by
      unfold rvt at hdg
      by_cases c : q < tm
      · rw [if_pos c] at hdg
        exact ⟨c, hdg⟩
      · rw [if_neg c] at hdg
        omega
    rw [if_neg (by omega), if_neg (by omega)] at hf
    have eN : rnm T tm 9223372036854775807 q = if (1 ≤ rdgp T tm q - q ∧ rdgp T tm q - q ≤ 18) ∧ rvl T q (rdgp T tm q - q) ≤ 9223372036854775807 then (true, rdgp T tm q) else (false, q) := by
      unfold rnm
      rw [hid]
    rw [eN] at hf
    refine mj_T.if0 (a := 1) rfl ⟨by decide, by decide⟩ (fun hc2 => by simp [jc] at hc2) (fun _ => ?_)
    refine mj_T.pl rfl rfl rfl rfl ?_
    refine rr_g s1 rfl (fun t => rfl) ?_
    iterate 2 refine mj_T.pl rfl rfl rfl rfl ?_
    refine mj_T.call rfl rfl (Nat.le_of_ble_eq_true rfl) (Nat.le_of_ble_eq_true rfl) (s1.rv (by decide) rfl _) rfl (mj_Ok.up (by omega) (rq_number (D := 0) hB ht hT hle s1)) (fun v h2 hq => ?_) (fun i h2 hq => by obtain ⟨_, _, _, _, ⟨_, _, hq⟩ | ⟨_, _, hq⟩⟩ := hq <;> cases hq)
    obtain ⟨k, h3, k1, k2, hq⟩ := hq
    have kp := (rdgp_pos k1).mpr hdig
    rw [k1, Nat.add_sub_cancel_left] at hf
    have hin : ∀ j, q ≤ j → j < q + k → 48 ≤ T j ∧ T j ≤ 57 := fun j j1 j2 => rdg_in (T := T) (tm - q) q j j1 (by show j < rdgp T tm q; omega)
    have hbd := rvl_bd (T := T) (s := q) k hin
    have lsz : cL 476 = 13 := by decide +kernel
    rcases hq with ⟨k3, s3, hq⟩ | ⟨k3, s3, hq⟩
    · cases hq
      have hpw : 10 ^ k ≤ 10 ^ 18 := Nat.pow_le_pow_right (by decide) (by omega)
      rw [if_pos ⟨⟨kp, k3⟩, by omega⟩] at hf
      cases hf
      refine jT.last (i := 0) s3.1 rfl kR.2.2.1 ⟨by decide, by decide⟩ ⟨by decide, by rw [lsz]; decide⟩ (show jR (rvl T q k) from ⟨by omega, by omega⟩) (fun h4 o4 _ => ?_)
      refine mj_T.pl rfl rfl rfl rfl ?_
      exact rq_fin hB ht hT k2 (by omega) (s3.ty o4)
    · cases hq
      rw [if_neg (fun w => by omega)] at hf
      cases hf
      refine jT.last (i := 0) s3.1 rfl kR.2.2.1 ⟨by decide, by decide⟩ ⟨by decide, by rw [lsz]; decide⟩ (show jR 0 from ⟨by decide, by decide⟩) (fun h4 o4 _ => ?_)
      refine mj_T.pl rfl rfl rfl rfl ?_
      exact rq_finE ht k2 hle (s3.ty o4)
  · cases hq'
    refine mj_T.if0 (a := 0) rfl ⟨by decide, by decide⟩ (fun _ => ?_) (fun hc2 => by simp [jc] at hc2)
    have ndig : ¬ (q < tm ∧ 48 ≤ T q ∧ T q ≤ 57) := fun w => hdg (by rw [show rvt T tm q = T q from if_pos w.1]; exact w.2)
    iterate 2 refine mj_T.pl rfl rfl rfl rfl ?_
    refine mj_T.call rfl rfl (Nat.le_of_ble_eq_true rfl) (Nat.le_of_ble_eq_true rfl) (s1.rv (by decide) rfl _) rfl (mj_Ok.up (by omega) (rq_takes (D := 0) (c := 120) ⟨by decide, by decide⟩ hB ht hT hle s1)) (fun v h2 hq => ?_) (fun i h2 hq => by rcases hq with ⟨_, _, _, _, hq⟩ | ⟨_, _, _, hq⟩ <;> cases hq)
    rcases hq with ⟨b, _, ⟨b1, b2, b3⟩, s2, hq⟩ | ⟨_, b1, s2, hq⟩
    · -- the letter x
      cases hq
      unfold rtk at b1
      rw [hid] at b1
      by_cases c : q < tm ∧ T q = 120
      · rw [if_pos c] at b1
        cases b1
        rw [if_pos c] at hf
        cases hf
        have lsz : cL 476 = 13 := by decide +kernel
        refine mj_T.if0 (a := 1) rfl ⟨by decide, by decide⟩ (fun hc2 => by simp [jc] at hc2) (fun _ => ?_)
        refine mj_T.pl rfl rfl rfl rfl ?_
        refine rr_g s2 rfl (fun t => rfl) ?_
        refine mj_T.pl rfl rfl rfl rfl ?_
        refine jT.lc 1 rfl rfl ?_
        refine jT.last (i := 1) s2.1 rfl kR.2.2.1 ⟨by decide, by decide⟩ ⟨by decide, by rw [lsz]; decide⟩ (show jR 1 from ⟨by decide, by decide⟩) (fun h4 o4 _ => ?_)
        refine mj_T.pl rfl rfl rfl rfl ?_
        exact rq_fin hB ht hT b2 (by omega) (s2.ty o4)
      · rw [if_neg c] at b1
        cases b1
    · cases hq
      rw [hid] at s2
      have nx : ¬ (q < tm ∧ T q = 120) := fun w => by
        unfold rtk at b1
        rw [hid, if_pos w] at b1
        cases b1
      rw [if_neg nx] at hf
      refine mj_T.if0 (a := 0) rfl ⟨by decide, by decide⟩ (fun _ => ?_) (fun hc2 => by simp [jc] at hc2)
      -- nothing fits: the error is here
      have bad : ∀ h2, rR g n (q : Int) (-1) h2 → res = (false, q) → mj_T (E0 + 5) mj_m52 127 [some (.ref 455), some (.int (jn (8 - (d : Int))))] [] h2 (rQ T tm g n a res rV) := fun h2 s2 er => by
        subst er
        iterate 2 refine mj_T.pl rfl rfl rfl rfl ?_
        refine rr_g s2 rfl (fun t => rfl) ?_
        refine rr_p3 s2 rfl (fun h3 s3 => ?_)
        exact rq_finE ht hle hle s3
      have num : ¬ (q < tm ∧ T q = 40) → res = (false, q) := fun w => by
        rw [if_neg w] at hf
        obtain ⟨k, k1⟩ : ∃ k, rdgp T tm q = q + k := ⟨rdgp T tm q - q, by have w : q ≤ rdgp T tm q := rdg_ge (T := T) (tm - q) q; omega⟩
        have k0 : ¬ (1 ≤ k) := fun w => ndig ((rdgp_pos k1).mp w)
        have eN : rnm T tm 9223372036854775807 q = (false, q) := by
          unfold rnm
          rw [hid, k1, Nat.add_sub_cancel_left, if_neg (fun w => k0 w.1.1)]
        rw [eN] at hf
        cases hf
        rfl
      iterate 2 refine mj_T.pl rfl rfl rfl rfl ?_
      refine mj_T.icmp (a := 8 - (d : Int)) (b := 8) rfl ⟨by omega, by omega⟩ ⟨by decide, by decide⟩ (fun c => ?_) (fun c => ?_)
      · simp only [jc, decide_eq_true_eq] at c
        have d0 : d = 0 := by omega
        subst d0
        refine bad _ s2 ?_
        by_cases w : q < tm ∧ T q = 40
        · rw [if_pos w, if_pos rfl] at hf
          cases hf
          rfl
        · exact num w
      simp only [jc, decide_eq_false_iff_not] at c
      obtain ⟨d', rfl⟩ : ∃ d', d = d' + 1 := ⟨d - 1, by omega⟩
      iterate 2 refine mj_T.pl rfl rfl rfl rfl ?_
      refine mj_T.call rfl rfl (Nat.le_of_ble_eq_true rfl) (Nat.le_of_ble_eq_true rfl) (s2.rv (by decide) rfl _) rfl (mj_Ok.up (by omega) (rq_takes (D := 0) (c := 40) ⟨by decide, by decide⟩ hB ht hT hle s2)) (fun v h3 hq => ?_) (fun i h3 hq => by rcases hq with ⟨_, _, _, _, hq⟩ | ⟨_, _, _, hq⟩ <;> cases hq)
      rcases hq with ⟨b, _, ⟨b1, b2, b3⟩, s3, hq⟩ | ⟨_, b1, s3, hq⟩
      rotate_left
      · cases hq
        rw [hid] at s3
        have n40 : ¬ (q < tm ∧ T q = 40) := fun w => by
          unfold rtk at b1
          rw [hid, if_pos w] at b1
          cases b1
        refine mj_T.if0 (a := 0) rfl ⟨by decide, by decide⟩ (fun _ => ?_) (fun hc2 => by simp [jc] at hc2)
        exact bad _ s3 (num n40)
      -- a sum in parentheses
      cases hq
      unfold rtk at b1
      rw [hid] at b1
      by_cases w : q < tm ∧ T q = 40
      rotate_left
      · rw [if_neg w] at b1
        cases b1
      rw [if_pos w] at b1
      cases b1
      rw [if_pos w, if_neg (Nat.succ_ne_zero d')] at hf
      refine mj_T.if0 (a := 1) rfl ⟨by decide, by decide⟩ (fun hc2 => by simp [jc] at hc2) (fun _ => ?_)
      iterate 3 refine mj_T.pl rfl rfl rfl rfl ?_
      refine mj_T.iadd (a := 8 - ((d' + 1 : Nat) : Int)) (b := 1) rfl ?_
      rw [show 8 - ((d' + 1 : Nat) : Int) + 1 = 8 - (d' : Int) by omega]
      -- behind the sum: copy it, go on
      have t107 : ∀ (b : Nat) (x : Int) (h4 : mj_H), rR g n (b : Int) x h4 → (∀ h5, rR g n (b : Int) x h5 → mj_T (E0 + 5) mj_m52 135 [some (.ref 455), some (.int (jn (8 - ((d' + 1 : Nat) : Int))))] [] h5 (rQ T tm g n a res rV)) → mj_T (E0 + 5) mj_m52 107 [some (.ref 455), some (.int (jn (8 - ((d' + 1 : Nat) : Int))))] [] h4 (rQ T tm g n a res rV) := fun b x h4 s4 k => by
        refine mj_T.pl rfl rfl rfl rfl ?_
        refine rr_g s4 rfl (fun t => rfl) ?_
        iterate 2 refine mj_T.pl rfl rfl rfl rfl ?_
        refine mj_T.iadd (a := 8 - ((d' + 1 : Nat) : Int)) (b := 1) rfl ?_
        refine rr_cp rfl rfl (Nat.le_of_ble_eq_true rfl) (Nat.le_of_ble_eq_true rfl) rfl rfl (mj_Ok.up (by omega) (jc_48 (D := 0) cTY0 (Nat.le_of_eq s4.1.1) s4.1 kR.1 ⟨by omega, by omega⟩)) (fun v hv => ?_)
        obtain ⟨r, kr, rfl⟩ := hv
        refine mj_T.eq (st2 := [.ref r]) ?_ rfl rfl rfl rfl
        refine mj_T.pl rfl rfl rfl rfl ?_
        refine rr_g s4 rfl (fun t => rfl) ?_
        refine rr_c s4 rfl rfl (Nat.le_of_ble_eq_true rfl) (Nat.le_of_ble_eq_true rfl) rfl rfl (mj_Ok.up (by omega) (jc_164 (D := 0) cTY0 (Nat.le_of_eq s4.1.1) s4.1 kr kR.2.2.1)) (fun v h5 hv s5 => ?_)
        cases hv
        refine mj_T.pl rfl rfl rfl rfl ?_
        exact k h5 s5
      cases hsum : rpr0 T tm f 3 d' (q + 1) with
      | none =>
        rw [show d' + 1 - 1 = d' from rfl, hsum] at hf
        cases hf
      | some rs =>
        rw [show d' + 1 - 1 = d' from rfl, hsum] at hf
        refine mj_T.call rfl rfl (Nat.le_of_ble_eq_true rfl) (Nat.le_of_ble_eq_true rfl) (s3.rv (by decide) rfl _) rfl (ih d' rfl f (q + 1) h3 rs b2 hsum s3) (fun v h4 hq => ?_) (fun i h4 hq => by obtain ⟨_, _, _, hq, _⟩ := hq; cases hq)
        obtain ⟨v2, c2, h5, hq, hv, c3, c4⟩ := hq
        cases hv
        cases hq
        obtain ⟨ok, x⟩ := rs
        rcases c4 with ⟨e1, e2, e3, s4⟩ | ⟨e1, e2, s4⟩
        · have e1 : ok = true := e1
          have e2 : c2 = x := e2
          subst e1 e2
          simp only at hf
          refine mj_T.pl rfl rfl rfl rfl ?_
          refine rr_g s4 rfl (fun t => rfl) ?_
          refine mj_T.pl rfl rfl rfl rfl ?_
          refine mj_T.icmp (a := -1) (b := -1) rfl ⟨by decide, by decide⟩ ⟨by decide, by decide⟩ (fun c => absurd c (by decide)) (fun _ => ?_)
          iterate 2 refine mj_T.pl rfl rfl rfl rfl ?_
          refine mj_T.call rfl rfl (Nat.le_of_ble_eq_true rfl) (Nat.le_of_ble_eq_true rfl) (s4.rv (by decide) rfl _) rfl (mj_Ok.up (by omega) (rq_takes (D := 0) (c := 41) ⟨by decide, by decide⟩ hB ht hT c3 s4)) (fun v h6 hq => ?_) (fun i h6 hq => by rcases hq with ⟨_, _, _, _, hq⟩ | ⟨_, _, _, hq⟩ <;> cases hq)
          rcases hq with ⟨b6, _, ⟨g1, g2, g3⟩, s6, hq⟩ | ⟨_, g1, s6, hq⟩
          · cases hq
            rw [g1] at hf
            cases hf
            refine mj_T.if0 (a := 1) rfl ⟨by decide, by decide⟩ (fun _ => ?_) (fun hc2 => by simp [jc] at hc2)
            exact t107 b6 (-1) h6 s6 (fun h7 s7 => rq_fin hB ht hT g2 (by omega) s7)
          · cases hq
            rw [g1] at hf
            cases hf
            have hl6 := rskp_le (T := T) c3
            refine mj_T.if0 (a := 0) rfl ⟨by decide, by decide⟩ (fun hc2 => by simp [jc] at hc2) (fun _ => ?_)
            iterate 2 refine mj_T.pl rfl rfl rfl rfl ?_
            refine rr_g s6 rfl (fun t => rfl) ?_
            refine rr_p3 s6 rfl (fun h7 s7 => ?_)
            exact t107 _ _ h7 s7 (fun h8 s8 => rq_finE ht hl6 hl6 s8)
        · have e1 : ok = false := e1
          subst e1
          simp only at hf e2 s4
          cases hf
          refine mj_T.pl rfl rfl rfl rfl ?_
          refine rr_g s4 rfl (fun t => rfl) ?_
          refine mj_T.pl rfl rfl rfl rfl ?_
          refine mj_T.icmp (a := (x : Int)) (b := -1) rfl ⟨by omega, by omega⟩ ⟨by decide, by decide⟩ (fun _ => ?_) (fun c => ?_)
          · exact t107 c2 (x : Int) h4 s4 (fun h7 s7 => rq_finE ht c3 e2 s7)
          · simp only [jc, Bool.not_eq_false', decide_eq_true_eq] at c
            omega
end JRE
