/-! The class behind its constructor, exactly. -/
theorem jnl_big (k : Nat) : ∃ B : Int, k < jnl B.natAbs := ⟨((jB ^ k : Nat) : Int), by
  rw [Int.natAbs_natCast]
  exact jnl_lt.mpr (by rw [Nat.div_self (jB_pow _)]; decide)⟩
/-- the first rows are written -/
def xR (X : Nat → Nat → Int) : Nat → Nat → Int := xup (xup (xup (xup (xup (xup (xup X 4 2 1) 4 0 (-2)) 5 3 1) 5 1 (-1)) 6 2 6) 6 1 (-5)) 6 0 1
theorem xR_off {X : Nat → Nat → Int} {a j : Nat} (h4 : a ≠ 4) (h5 : a ≠ 5) (h6 : a ≠ 6) : xR X a j = X a j := by
  unfold xR
  rw [xup_ne _ _ (Or.inl h6), xup_ne _ _ (Or.inl h6), xup_ne _ _ (Or.inl h6), xup_ne _ _ (Or.inl h5), xup_ne _ _ (Or.inl h5), xup_ne _ _ (Or.inl h4), xup_ne _ _ (Or.inl h4)]
theorem xR_0 : ((List.range 6).all fun r => (List.range 13).all fun j => decide (xR (fun _ _ => 0) (4 + r) j = riN (r * 13 + j))) = true := by decide +kernel
theorem xR_row {X : Nat → Nat → Int} {r j : Nat} (hr : r < 6) (hj : j < 13) (h0 : X (4 + r) j = 0) : xR X (4 + r) j = riN (r * 13 + j) := by
  have h1 := of_decide_eq_true (List.all_eq_true.mp (List.all_eq_true.mp xR_0 r (List.mem_range.mpr hr)) j (List.mem_range.mpr hj))
  rw [← h1]
  simp only [xR, xup, h0]
theorem ck_b2 : cK 2 = 10 ∧ cK 3 = 6 ∧ cK 4 = 2 ∧ cK 5 = 2 ∧ cK 6 = 2 ∧ cL 3 = 6 ∧ cK 479 = 18 ∧ cK 15 = 17 ∧ cK 17 = 17 := by decide +kernel
theorem bydl_9 : (bydl.all fun x => decide (x ≠ 479)) = true := by decide +kernel
theorem cK_r2 : ((List.range 6).all fun r => decide (cK (4 + r) = 2)) = true := by decide +kernel
section ZKE
variable {g h h0 : mj_H} {n D : Nat} {V : Nat → Int} {X : Nat → Nat → Int}
theorem mB_first (m : jM g n V X h) : mj_Ok (D + 1) 1 [.ref 2] h (fun z => ∃ h2, jM g n V (xR X) h2 ∧ z = (.inl none, h2)) := by
  obtain ⟨k2, k3, k4, k5, k6, l3, _⟩ := ck_b2
  refine mj_Ok.of (M := mj_m1) rfl rfl rfl ?_
  refine mj_T.pl rfl rfl rfl rfl ?_
  refine mT_get m 10 k2 (by decide) rfl rfl ?_
  refine mj_T.pl rfl rfl rfl rfl ?_
  refine mj_T.eq (st2 := [.int (jn 0), .ref 3]) ?_ rfl rfl rfl rfl
  refine mT_aald m 6 k3 (by decide) rfl rfl (by decide) (by rw [l3]; decide) ?_
  iterate 2 refine mj_T.pl rfl rfl rfl rfl ?_
  refine mj_T.eq (st2 := [.long (jl 1), .int (jn 2), .ref 4]) ?_ rfl rfl rfl rfl
  refine mT_last m k4 rfl (by decide) (fun h1 m1 => ?_)
  refine mj_T.pl rfl rfl rfl rfl ?_
  refine mT_get m1 10 k2 (by decide) rfl rfl ?_
  refine mj_T.pl rfl rfl rfl rfl ?_
  refine mj_T.eq (st2 := [.int (jn 0), .ref 3]) ?_ rfl rfl rfl rfl
  refine mT_aald m1 6 k3 (by decide) rfl rfl (by decide) (by rw [l3]; decide) ?_
  iterate 2 refine mj_T.pl rfl rfl rfl rfl ?_
  refine mj_T.eq (st2 := [.long (jl (-2)), .int (jn 0), .ref 4]) ?_ rfl rfl rfl rfl
  refine mT_last m1 k4 rfl (by decide) (fun h2 m2 => ?_)
  refine mj_T.pl rfl rfl rfl rfl ?_
  refine mT_get m2 10 k2 (by decide) rfl rfl ?_
  refine mj_T.pl rfl rfl rfl rfl ?_
  refine mj_T.eq (st2 := [.int (jn 1), .ref 3]) ?_ rfl rfl rfl rfl
  refine mT_aald m2 6 k3 (by decide) rfl rfl (by decide) (by rw [l3]; decide) ?_
  iterate 2 refine mj_T.pl rfl rfl rfl rfl ?_
  refine mj_T.eq (st2 := [.long (jl 1), .int (jn 3), .ref 5]) ?_ rfl rfl rfl rfl
  refine mT_last m2 k5 rfl (by decide) (fun h3 m3 => ?_)
  refine mj_T.pl rfl rfl rfl rfl ?_
  refine mT_get m3 10 k2 (by decide) rfl rfl ?_
  refine mj_T.pl rfl rfl rfl rfl ?_
  refine mj_T.eq (st2 := [.int (jn 1), .ref 3]) ?_ rfl rfl rfl rfl
  refine mT_aald m3 6 k3 (by decide) rfl rfl (by decide) (by rw [l3]; decide) ?_
  iterate 2 refine mj_T.pl rfl rfl rfl rfl ?_
  refine mj_T.eq (st2 := [.long (jl (-1)), .int (jn 1), .ref 5]) ?_ rfl rfl rfl rfl
  refine mT_last m3 k5 rfl (by decide) (fun h4 m4 => ?_)
  refine mj_T.pl rfl rfl rfl rfl ?_
  refine mT_get m4 10 k2 (by decide) rfl rfl ?_
  refine mj_T.pl rfl rfl rfl rfl ?_
  refine mj_T.eq (st2 := [.int (jn 2), .ref 3]) ?_ rfl rfl rfl rfl
  refine mT_aald m4 6 k3 (by decide) rfl rfl (by decide) (by rw [l3]; decide) ?_
  iterate 2 refine mj_T.pl rfl rfl rfl rfl ?_
  refine mj_T.eq (st2 := [.long (jl 6), .int (jn 2), .ref 6]) ?_ rfl rfl rfl rfl
  refine mT_last m4 k6 rfl (by decide) (fun h5 m5 => ?_)
  refine mj_T.pl rfl rfl rfl rfl ?_
  refine mT_get m5 10 k2 (by decide) rfl rfl ?_
  refine mj_T.pl rfl rfl rfl rfl ?_
  refine mj_T.eq (st2 := [.int (jn 2), .ref 3]) ?_ rfl rfl rfl rfl
  refine mT_aald m5 6 k3 (by decide) rfl rfl (by decide) (by rw [l3]; decide) ?_
  iterate 2 refine mj_T.pl rfl rfl rfl rfl ?_
  refine mj_T.eq (st2 := [.long (jl (-5)), .int (jn 1), .ref 6]) ?_ rfl rfl rfl rfl
  refine mT_last m5 k6 rfl (by decide) (fun h6 m6 => ?_)
  refine mj_T.pl rfl rfl rfl rfl ?_
  refine mT_get m6 10 k2 (by decide) rfl rfl ?_
  refine mj_T.pl rfl rfl rfl rfl ?_
  refine mj_T.eq (st2 := [.int (jn 2), .ref 3]) ?_ rfl rfl rfl rfl
  refine mT_aald m6 6 k3 (by decide) rfl rfl (by decide) (by rw [l3]; decide) ?_
  iterate 2 refine mj_T.pl rfl rfl rfl rfl ?_
  refine mj_T.eq (st2 := [.long (jl 1), .int (jn 0), .ref 6]) ?_ rfl rfl rfl rfl
  refine mT_last m6 k6 rfl (by decide) (fun h7 m7 => ?_)
  exact mj_T.ret rfl rfl rfl ⟨h7, m7, rfl⟩
/-- what lies behind the constructors is of its kind, and fresh -/
theorem zk_jO (hn : h0.length = 2) (d : zDn cK cL cR 0 h0 1 563 h) : jO cK cL cR h 563 0 h ∧ ∀ (a : Nat) (e : mj_E), cK a ≠ 0 → ¬ zW a → h[a]? = some e → zZ e := by
  obtain ⟨d1, d2, d3, d4⟩ := d
  have d5 : ∀ a : Nat, cK a ≠ 0 → ∃ e, h[a]? = some e ∧ zCf cK cL cR 0 (cK a) a e := fun a ha => by
    refine d4 a ?_ (cK_in ha)
    by_cases c : a = 0
    · subst c
      exact absurd ck0.1 ha
    · omega
  refine ⟨⟨d1, ⟨by decide, by decide⟩, fun _ _ => ⟨fun _ => rfl, fun p q => absurd p (by omega)⟩, fun a ha => ?_⟩, fun a e ha hw he => ?_⟩
  · obtain ⟨e, e1, e2⟩ := d5 a ha
    exact ⟨e, e1, e2.1⟩
  · obtain ⟨e2, e3, e4⟩ := d5 a ha
    rw [he] at e3
    cases e3
    exact e4.2 hw
theorem zk_start (hn : h0.length = 2) {H : Nat → Nat → Int} (ha : h0[1]? = some (.inr (9, [.null, .null, .int 0, .int 0, .null, .null, .null, .null, .null, .null, .null, .null, .null, .null, .null, .int 0]))) : mj_Ok (D + 4) 101 [.ref 1] h0 (fun r => cC riN 0 H r.2) := by
  obtain ⟨k2, k3, k4, k5, k6, l3, k479, k15, k17⟩ := ck_b2
  refine zk_101 ha hn (fun h d hX => ?_)
  obtain ⟨o, z⟩ := zk_jO hn d
  have zw : ∀ {a : Nat}, cK a ≠ 18 → ¬ zW a := fun hk w => hk w.2
  have by1 : ∀ x, x ∈ bydl → xOf h x 1 = 0 ∧ xOf h x 2 = 0 := fun x hx => by
    have kx := bydl_k hx
    obtain ⟨fs, h1, _, _⟩ := sM_ob o (a := x) (by omega)
    rw [kx] at h1
    have q : fs[1]? = some (.int 0) ∧ fs[2]? = some (.int 0) := (z x _ (by omega) (fun w => w.1 hx) h1).1 rfl
    exact ⟨xOf_i h1 q.1, xOf_i h1 q.2⟩
  have dg : DG (xOf h) := fun p kp => by
    obtain ⟨fs, h1, _, _⟩ := sM_ob o (a := p) (by omega)
    rw [kp] at h1
    have q : fs[2]? = some (.int (jn (-1))) := (z p _ (by omega) (zw (by omega)) h1).2.1 rfl
    have e : xOf h p 2 = -1 := (xOf_i h1 q).trans (jn_toInt ⟨by decide, by decide⟩)
    rw [e]
    omega
  have rz : ∀ r j : Nat, r < 6 → xOf h (4 + r) j = 0 := fun r j hr => by
    have kr : cK (4 + r) = 2 := of_decide_eq_true (List.all_eq_true.mp cK_r2 r (List.mem_range.mpr hr))
    have h1 := sM_al o kr
    have q : ∀ i : Nat, (fun j => Value.long (jl (xOf h (4 + r) j))) i = .long 0 := z (4 + r) _ (by omega) (zw (by omega)) h1 rfl
    exact xOf_al h1 (q j)
  have x23 : xOf h 2 3 = 0 := by
    obtain ⟨fs, h1, _, _⟩ := sM_ob o (a := 2) (by omega)
    rw [k2] at h1
    have q : fs[3]? = some (.int 0) := (z 2 _ (by omega) (zw (by omega)) h1).2.2 rfl
    exact xOf_i h1 q
  have x12 : xOf h 1 2 = 0 := xOf_i (i := 2) (w := 0) hX rfl
  have x13 : xOf h 1 3 = 0 := xOf_i (i := 3) (w := 0) hX rfl
  have tx : ∀ a, cK a = 17 → 0 ≤ xOf h a 1 ∧ xOf h a 1 ≤ 340 := fun a ka => by
    obtain ⟨fs, h1, hl, hf⟩ := sM_ob o (a := a) (by omega)
    rw [ka] at h1 hl hf
    have hl : fs.length = 2 := hl
    have hv : fs[1]? = some fs[1] := List.getElem?_eq_getElem (by omega)
    obtain ⟨x, x0, x1, e⟩ := sM_n hf (i := 1) (c := 5) rfl (by decide) (by decide) (by decide) hv
    have x0 : 0 ≤ x := x0
    have x1 : x ≤ 340 := x1
    rw [e] at hv
    rw [xOf_i h1 hv, jn_toInt ⟨by omega, by omega⟩]
    exact ⟨x0, x1⟩
  obtain ⟨B, hB⟩ := jnl_big 1500
  have m := sM_jM o hB by1
  refine mj_T.pl rfl rfl rfl rfl ?_
  refine mT_get m 19 ck0.2 (by decide) rfl rfl ?_
  refine mj_T.call rfl rfl (Nat.le_of_ble_eq_true rfl) (Nat.le_of_ble_eq_true rfl) (mV_of m 10 k2 (by decide) rfl (by decide) rfl _) rfl (mj_Ok.up (by omega) (mB_first (D := 0) m)) (fun v h1 hq => ?_) (fun i h1 hq => by obtain ⟨_, _, hq⟩ := hq; cases hq)
  obtain ⟨_, m1, hq⟩ := hq
  cases hq
  refine mj_T.pl rfl rfl rfl rfl ?_
  refine mT_get m1 19 ck0.2 (by decide) rfl rfl ?_
  refine mj_T.pl rfl rfl rfl rfl ?_
  refine mj_T.eq (st2 := [.long (jl 1), .ref 479]) ?_ rfl rfl rfl rfl
  refine mj_T.call rfl rfl (Nat.le_of_ble_eq_true rfl) (Nat.le_of_ble_eq_true rfl) (mV_of m1 18 k479 (by decide) rfl (by decide) rfl _) rfl (mj_Ok.up (by omega) (mW_setLong (D := 0) m1 k479 (v := 1) ⟨by decide, by decide⟩ (Nat.le_trans (jnl_le_lt.mpr (by decide : 1 < jB ^ 1)) (mK_w (Or.inl k479)).2.2))) (fun v h2 hq => ?_) (fun i h2 hq => by obtain ⟨_, _, hq⟩ := hq; cases hq)
  obtain ⟨_, m2, hq⟩ := hq
  cases hq
  refine mj_T.ret rfl rfl rfl ?_
  have s : cS h 563 riN 0 H h2 := by
    refine ⟨_, _, m2, fun x hx => ?_, fun p kp => ?_, 0, by decide, ?_, ?_, ⟨fun r hr j hj => ?_, ?_, fun k hk => ?_⟩, fun k hk => absurd hk (Nat.not_lt_zero k), ⟨?_, ?_⟩⟩
    · have h1 : x ≠ 479 := of_decide_eq_true (List.all_eq_true.mp bydl_9 x hx)
      show (if x = 479 then (1 : Int) else if x ∈ bydl then 0 else B) = 0
      rw [if_neg h1, if_pos hx]
    · have h1 := cK_13 kp
      rw [xR_off (by omega) (by omega) (by omega)]
      exact dg p kp
    · rw [xR_off (by decide) (by decide) (by decide)]
      exact x13
    · rw [xR_off (by decide) (by decide) (by decide)]
      exact x12
    · exact xR_row hr hj (rz r j hr)
    · rw [xR_off (by decide) (by decide) (by decide)]
      exact x23
    · have h1 : riN 78 = 0 := rfl
      exfalso
      omega
    · rw [xR_off (by decide) (by decide) (by decide)]
      exact tx 15 k15
    · rw [xR_off (by decide) (by decide) (by decide)]
      exact tx 17 k17
  exact s.cC
end ZKE
