/-! Of the reference and of numbers (as in p1, part 78u). -/
section JXE
variable {D : Nat} {hp : mj_H} {q0 q1 q2 q3 : Nat} {fs : List Value} {bg : Nat → Int32} {ov db : Nat → Value}
theorem jq_dl (G : jG hp q0 q1 q2 q3 fs) {k n U V : Nat} (hk : k + n ≤ 1402) (hn1 : 1 ≤ n) (hn2 : n ≤ 701) (hV : jnl V = n) (hnorm : 1000000000 ≤ 2 * jlb V (n - 1)) (hU : U < V * jB) (hov : ∀ j, j ≤ n → ov (k + j) = .int (jn (jlb U j : Nat))) (hdb : ∀ j, j < n → db j = .int (jn (jlb V j : Nat))) :
    mj_Ok (D + 1) 192 [.ref q0, .int (jn k), .int (jn n)] (jZ hp q1 q2 q3 bg ov db) (fun r => ∃ ov' : Nat → Value, (∀ j, j ≤ n → ov' (k + j) = .int (jn (jlb (U % V) j : Nat))) ∧ (∀ j, j < k ∨ k + n < j → ov' j = ov j) ∧ r = (.inl (some (.int (jn (U / V : Nat)))), jZ hp q1 q2 q3 bg ov' db)) := by
  obtain ⟨p, rfl⟩ : ∃ p, n = p + 1 := ⟨n - 1, by omega⟩
  rw [Nat.add_sub_cancel] at hnorm
  have hgood := jgood hV hnorm hU
  have hVlt : V < jB ^ (p + 1) := jnl_le_lt.mp (Nat.le_of_eq hV)
  have hV0 : 0 < V := Nat.pos_of_ne_zero (fun q => by rw [q, jnl_zero] at hV; omega)
  have hUlt : U < jB ^ (p + 1 + 1) := by
    rw [Nat.pow_succ]
    exact Nat.lt_trans hU (Nat.mul_lt_mul_of_pos_right hVlt (by decide))
  have hqB : U / V < 1000000000 := by rw [Nat.div_lt_iff_lt_mul hV0, Nat.mul_comm]; exact hU
  have hT : jlb U (p + 1) * jB + jlb U p < (jlb V p + 1) * jB := by
    have ht : U / jB ^ p = jlb U (p + 1) * jB + jlb U p := by rw [jdiv U p, jtop_eq hUlt]
    have hVl : V < (jlb V p + 1) * jB ^ p := by
      rw [← jtop_eq hVlt, Nat.mul_comm]
      exact Nat.lt_mul_div_succ V (jB_pow p)
    rw [← ht, Nat.div_lt_iff_lt_mul (jB_pow p)]
    refine Nat.lt_of_lt_of_le hU ?_
    rw [Nat.mul_assoc, Nat.mul_comm jB, ← Nat.mul_assoc]
    exact Nat.mul_le_mul_right _ (Nat.le_of_lt hVl)
  have ul := jlb_lt U (p + 1)
  have ul2 := jlb_lt U p
  have vl := jlb_lt V p
  have hv2 : (if 1 < p + 1 then jlb V (p + 1 - 2) else 0) < 1000000000 := by split <;> first | exact jlb_lt _ _ | decide
  have hu2 : (if 1 < p + 1 then jlb U (p + 1 - 2) else 0) < 1000000000 := by split <;> first | exact jlb_lt _ _ | decide
  have hT2 : ((jlb U (p + 1) : Nat) : Int) * 1000000000 + ((jlb U p : Nat) : Int) = ((jlb U (p + 1) * jB + jlb U p : Nat) : Int) := by rw [Int.natCast_add, Int.natCast_mul]; rfl
  have hTb : jlb U (p + 1) * jB + jlb U p < 1000000000000000001 := by
    have : jlb U (p + 1) * jB ≤ 999999999 * 1000000000 := Nat.mul_le_mul (by omega) (Nat.le_refl _)
    omega
  have hT : jlb U (p + 1) * jB + jlb U p < (jlb V p + 1) * 1000000000 := hT
  generalize hTT : jlb U (p + 1) * jB + jlb U p = T at *
  generalize hll : jlb V p = l at *
  -- once the guess is made
  have cont : ∀ (x r : Nat), x = (jgn l (if 1 < p + 1 then jlb V (p + 1 - 2) else 0) (if 1 < p + 1 then jlb U (p + 1 - 2) else 0) 2 (T / l, T % l)).1 → mj_T D mj_m192 153 (jLd q0 k (p + 1) T x r (if 1 < p + 1 then jlb V (p + 1 - 2) else 0 : Nat) (if 1 < p + 1 then jlb U (p + 1 - 2) else 0 : Nat) none none none none none none) [] (jZ hp q1 q2 q3 bg ov db)
      (fun r => ∃ ov' : Nat → Value, (∀ j, j ≤ p + 1 → ov' (k + j) = .int (jn (jlb (U % V) j : Nat))) ∧ (∀ j, j < k ∨ k + (p + 1) < j → ov' j = ov j) ∧ r = (.inl (some (.int (jn (U / V : Nat)))), jZ hp q1 q2 q3 bg ov' db)) := by
    intro x r hx
    rw [← hx] at hgood
    clear hx
    have hVlt2 : V < jB ^ (p + 1 + 1) := Nat.lt_trans hVlt (Nat.pow_lt_pow_right (by decide) (by omega))
    have hc0 : jsc V x (p + 1 + 1) = 0 := by
      unfold jsc
      rw [Nat.mod_eq_of_lt hVlt2]
      refine Nat.div_eq_of_lt ?_
      rw [Nat.pow_succ jB (p + 1)]
      have hxB : x ≤ jB := by show x ≤ 1000000000; omega
      exact Nat.lt_of_le_of_lt (Nat.mul_le_mul_left V hxB) (Nat.mul_lt_mul_of_pos_right hVlt (by decide))
    iterate 6 refine mj_T.pl rfl rfl rfl rfl ?_
    refine mj_T.eq (jq_dl_sub G (k := k) (n := p + 1) (U := U) (V := V) (x := x) (t := T) (r := r) (v := (if 1 < p + 1 then jlb V (p + 1 - 2) else 0 : Nat)) (w := (if 1 < p + 1 then jlb U (p + 1 - 2) else 0 : Nat)) (ov0 := ov) hk hn2 hV (by omega) hov hdb (fun ov1 b R l17 l19 hb hta h1 h2 => ?_) (p + 1 + 1) 0 0 0 ov none none (by omega) (by omega) (by rw [jsc_zero]; exact jta_zero U V x) (fun j hj => by omega) (fun j _ => rfl)) rfl ?_ rfl rfl
    rotate_left
    · rw [jsc_zero]; rfl
    rw [hc0, Nat.zero_add] at hta
    have htq := jta_q hVlt2 hV0 (Nat.div_eq_of_lt hUlt) hta
    refine mj_T.pl rfl rfl rfl rfl ?_
    refine mj_T.if0 rfl ⟨by omega, by omega⟩ (fun hc => ?_) (fun hc => ?_)
    · simp only [jc, Bool.not_eq_true', decide_eq_false_iff_not] at hc
      have hxq : x = U / V + 1 := by
        rcases (show x = U / V ∨ x = U / V + 1 by omega) with h | h
        · have := (htq.1 h).1; omega
        · exact h
      have hR := (htq.2 hxq).2
      iterate 4 refine mj_T.pl rfl rfl rfl rfl ?_
      refine mj_T.eq (jq_dl_add G (k := k) (n := p + 1) (R := R) (V := V) (t := T) (g := x) (r := r) (v := (if 1 < p + 1 then jlb V (p + 1 - 2) else 0 : Nat)) (w := (if 1 < p + 1 then jlb U (p + 1 - 2) else 0 : Nat)) (l13 := some (.long (jl (jsc V x (p + 1 + 1) : Nat)))) (b15 := (b : Nat)) (l19 := l19) (ov0 := ov1) hk hn2 hV h1 hdb (fun ov2 l16 l17 l18 k1 k2 => ?_) (p + 1 + 1) 0 ov1 none (by omega) (fun j hj => by omega) (fun j _ => rfl)) rfl ?_ rfl rfl
      · refine mj_T.pl rfl rfl rfl rfl ?_
        refine mj_T.l2i rfl ?_
        refine mj_T.pl rfl rfl rfl rfl ?_
        refine mj_T.isub (b := 1) rfl ?_
        rw [show (x : Int) - 1 = ((U / V : Nat) : Int) by omega]
        refine mj_T.ret rfl rfl rfl ⟨ov2, fun j hj => ?_, fun j hj => (k2 j hj).trans (h2 j hj), rfl⟩
        rw [k1 j hj, hR, jlb_low (by omega)]
      · rw [jcy_zero]; rfl
    · simp only [jc, Bool.not_eq_false', decide_eq_true_eq] at hc
      have hxq : x = U / V := by
        rcases (show x = U / V ∨ x = U / V + 1 by omega) with h | h
        · exact h
        · have := (htq.2 h).1; omega
      have hR := (htq.1 hxq).2
      refine mj_T.pl rfl rfl rfl rfl ?_
      refine mj_T.l2i rfl ?_
      rw [hxq]
      exact mj_T.ret rfl rfl rfl ⟨ov1, fun j hj => by rw [h1 j hj, hR], h2, rfl⟩
  have hl0 : 0 < l := by omega
  have hG1 : T / l < 1000000002 := by
    rw [Nat.div_lt_iff_lt_mul hl0]
    omega
  have hr := Nat.mod_lt T hl0
  generalize hv2e : (if 1 < p + 1 then jlb V (p + 1 - 2) else 0) = v2 at *
  generalize hu2e : (if 1 < p + 1 then jlb U (p + 1 - 2) else 0) = u2 at *
  have eB : jB = 1000000000 := rfl
  have hdl : db p = .int (jn (l : Nat)) := by rw [← hll]; exact hdb p (by omega)
  refine mj_Ok.of (M := mj_m192) rfl rfl rfl ?_
  refine mj_T.pl rfl rfl rfl rfl ?_
  refine mj_T.gov (jG_e G _) rfl ?_
  iterate 2 refine mj_T.pl rfl rfl rfl rfl ?_
  refine mj_T.iadd rfl ?_
  rw [show (k : Int) + ((p + 1 : Nat) : Int) = ((k + (p + 1) : Nat) : Int) by omega]
  refine mj_T.old (jG_e G _) rfl ⟨by omega, by omega⟩ ⟨by omega, by omega⟩ (hov (p + 1) (Nat.le_refl _)) ?_
  refine mj_T.i2l rfl ⟨by omega, by omega⟩ ?_
  refine mj_T.pl rfl rfl rfl rfl ?_
  refine mj_T.lmul (b := 1000000000) rfl ?_
  refine mj_T.pl rfl rfl rfl rfl ?_
  refine mj_T.gov (jG_e G _) rfl ?_
  iterate 2 refine mj_T.pl rfl rfl rfl rfl ?_
  refine mj_T.iadd rfl ?_
  refine mj_T.pl rfl rfl rfl rfl ?_
  refine mj_T.isub (b := 1) rfl ?_
  rw [show (k : Int) + ((p + 1 : Nat) : Int) - 1 = ((k + p : Nat) : Int) by omega]
  refine mj_T.old (jG_e G _) rfl ⟨by omega, by omega⟩ ⟨by omega, by omega⟩ (hov p (by omega)) ?_
  refine mj_T.i2l rfl ⟨by omega, by omega⟩ ?_
  refine mj_T.ladd rfl ?_
  rw [hT2]
  iterate 3 refine mj_T.pl rfl rfl rfl rfl ?_
  refine mj_T.gby G rfl ?_
  iterate 2 refine mj_T.pl rfl rfl rfl rfl ?_
  refine mj_T.isub (b := 1) rfl ?_
  rw [show ((p + 1 : Nat) : Int) - 1 = (p : Int) by omega]
  refine mj_T.yld G rfl ⟨by omega, by omega⟩ ⟨by omega, by omega⟩ hdl ?_
  refine mj_T.i2l rfl ⟨by omega, by omega⟩ ?_
  refine mj_T.ldiv rfl ⟨by omega, by omega⟩ ⟨by omega, by omega⟩ (by omega) ?_
  rw [show ((T : Nat) : Int).tdiv ((l : Nat) : Int) = ((T / l : Nat) : Int) from rfl]
  iterate 3 refine mj_T.pl rfl rfl rfl rfl ?_
  refine mj_T.gby G rfl ?_
  iterate 2 refine mj_T.pl rfl rfl rfl rfl ?_
  refine mj_T.isub (b := 1) rfl ?_
  rw [show ((p + 1 : Nat) : Int) - 1 = (p : Int) by omega]
  refine mj_T.yld G rfl ⟨by omega, by omega⟩ ⟨by omega, by omega⟩ hdl ?_
  refine mj_T.i2l rfl ⟨by omega, by omega⟩ ?_
  refine mj_T.lrem rfl ⟨by omega, by omega⟩ ⟨by omega, by omega⟩ (by omega) ?_
  rw [show ((T : Nat) : Int).tmod ((l : Nat) : Int) = ((T % l : Nat) : Int) from rfl]
  have k92 : ∀ z : Int, z = (u2 : Nat) → mj_T D mj_m192 92 [some (.ref q0), some (.int (jn k)), some (.int (jn (p + 1 : Nat))), some (.long (jl T)), none, some (.long (jl (T / l : Nat))), none, some (.long (jl (T % l : Nat))), none, some (.long (jl v2)), none, none, none, none, none, none, none, none, none, none, none] [.long (jl z)] (jZ hp q1 q2 q3 bg ov db)
      (fun r => ∃ ov' : Nat → Value, (∀ j, j ≤ p + 1 → ov' (k + j) = .int (jn (jlb (U % V) j : Nat))) ∧ (∀ j, j < k ∨ k + (p + 1) < j → ov' j = ov j) ∧ r = (.inl (some (.int (jn (U / V : Nat)))), jZ hp q1 q2 q3 bg ov' db)) := by
    intro z hz
    subst hz
    refine mj_T.pl rfl rfl rfl rfl ?_
    refine jq_dl_guess G (k := k) (n := p + 1) (p1 := T / l) (p2 := T % l) (l := l) (v2 := v2) (u2 := u2) (t := T) (by omega) hn2 vl hv2 hu2 (by omega) (by omega) (fun h => ?_) hdl (fun hc => ?_) (fun hc hlt => ?_) (fun hc hge => ?_)
    · rcases h with h | h
      · omega
      · exact Nat.pos_of_ne_zero (fun q => by rw [q, Nat.zero_mul] at h; omega)
    · have e : jgs l v2 u2 (T / l, T % l) = (T / l, T % l) := if_neg (fun h => hc h.2)
      refine cont _ _ ?_
      show T / l = (jgs l v2 u2 (jgs l v2 u2 (T / l, T % l))).1
      rw [e, e]
    · have e : jgs l v2 u2 (T / l, T % l) = (T / l - 1, T % l + l) := if_pos ⟨show T % l < jB by omega, hc⟩
      refine jq_dl_guess G (k := k) (n := p + 1) (p1 := T / l - 1) (p2 := T % l + l) (l := l) (v2 := v2) (u2 := u2) (t := T) (by omega) hn2 vl hv2 hu2 (by omega) hlt (fun h => ?_) hdl (fun hc2 => ?_) (fun hc2 hlt2 => ?_) (fun hc2 hge2 => ?_)
      · rcases h with h | h
        · omega
        · exact Nat.pos_of_ne_zero (fun q => by rw [q, Nat.zero_mul] at h; omega)
      · have e2 : jgs l v2 u2 (T / l - 1, T % l + l) = (T / l - 1, T % l + l) := if_neg (fun h => hc2 h.2)
        refine cont _ _ ?_
        show T / l - 1 = (jgs l v2 u2 (jgs l v2 u2 (T / l, T % l))).1
        rw [e, e2]
      · omega
      · have e2 : jgs l v2 u2 (T / l - 1, T % l + l) = (T / l - 1 - 1, T % l + l + l) := if_pos ⟨show T % l + l < jB by omega, hc2⟩
        refine cont _ _ ?_
        show T / l - 1 - 1 = (jgs l v2 u2 (jgs l v2 u2 (T / l, T % l))).1
        rw [e, e2]
    · have e : jgs l v2 u2 (T / l, T % l) = (T / l - 1, T % l + l) := if_pos ⟨show T % l < jB by omega, hc⟩
      have e2 : jgs l v2 u2 (T / l - 1, T % l + l) = (T / l - 1, T % l + l) := if_neg (fun h => hge h.1)
      refine cont _ _ ?_
      show T / l - 1 = (jgs l v2 u2 (jgs l v2 u2 (T / l, T % l))).1
      rw [e, e2]
  have k70 : ∀ z : Int, z = (v2 : Nat) → mj_T D mj_m192 70 [some (.ref q0), some (.int (jn k)), some (.int (jn (p + 1 : Nat))), some (.long (jl T)), none, some (.long (jl (T / l : Nat))), none, some (.long (jl (T % l : Nat))), none, none, none, none, none, none, none, none, none, none, none, none, none] [.long (jl z)] (jZ hp q1 q2 q3 bg ov db)
      (fun r => ∃ ov' : Nat → Value, (∀ j, j ≤ p + 1 → ov' (k + j) = .int (jn (jlb (U % V) j : Nat))) ∧ (∀ j, j < k ∨ k + (p + 1) < j → ov' j = ov j) ∧ r = (.inl (some (.int (jn (U / V : Nat)))), jZ hp q1 q2 q3 bg ov' db)) := by
    intro z hz
    subst hz
    iterate 3 refine mj_T.pl rfl rfl rfl rfl ?_
    refine mj_T.icmp (b := 1) rfl ⟨by omega, by omega⟩ ⟨by omega, by omega⟩ (fun hc => ?_) (fun hc => ?_)
    · simp only [jc, decide_eq_true_eq] at hc
      refine mj_T.pl rfl rfl rfl rfl ?_
      exact k92 0 (by rw [← hu2e, if_neg (by omega)]; rfl)
    · simp only [jc, decide_eq_false_iff_not] at hc
      refine mj_T.pl rfl rfl rfl rfl ?_
      refine mj_T.gov (jG_e G _) rfl ?_
      iterate 2 refine mj_T.pl rfl rfl rfl rfl ?_
      refine mj_T.iadd rfl ?_
      refine mj_T.pl rfl rfl rfl rfl ?_
      refine mj_T.isub (b := 2) rfl ?_
      rw [show (k : Int) + ((p + 1 : Nat) : Int) - 2 = ((k + (p + 1 - 2) : Nat) : Int) by omega]
      refine mj_T.old (jG_e G _) rfl ⟨by omega, by omega⟩ ⟨by omega, by omega⟩ (hov (p + 1 - 2) (by omega)) ?_
      have e5 : jlb U (p + 1 - 2) = u2 := by rw [← hu2e, if_pos (by omega)]
      rw [e5]
      refine mj_T.i2l rfl ⟨by omega, by omega⟩ ?_
      refine mj_T.pl rfl rfl rfl rfl ?_
      exact k92 _ rfl
  iterate 3 refine mj_T.pl rfl rfl rfl rfl ?_
  refine mj_T.icmp (b := 1) rfl ⟨by omega, by omega⟩ ⟨by omega, by omega⟩ (fun hc => ?_) (fun hc => ?_)
  · simp only [jc, decide_eq_true_eq] at hc
    refine mj_T.pl rfl rfl rfl rfl ?_
    exact k70 0 (by rw [← hv2e, if_neg (by omega)]; rfl)
  · simp only [jc, decide_eq_false_iff_not] at hc
    refine mj_T.pl rfl rfl rfl rfl ?_
    refine mj_T.gby G rfl ?_
    iterate 2 refine mj_T.pl rfl rfl rfl rfl ?_
    refine mj_T.isub (b := 2) rfl ?_
    rw [show ((p + 1 : Nat) : Int) - 2 = ((p + 1 - 2 : Nat) : Int) by omega]
    refine mj_T.yld G rfl ⟨by omega, by omega⟩ ⟨by omega, by omega⟩ (hdb (p + 1 - 2) (by omega)) ?_
    have e5 : jlb V (p + 1 - 2) = v2 := by rw [← hv2e, if_pos (by omega)]
    rw [e5]
    refine mj_T.i2l rfl ⟨by omega, by omega⟩ ?_
    refine mj_T.pl rfl rfl rfl rfl ?_
    exact k70 _ rfl
end JXE

