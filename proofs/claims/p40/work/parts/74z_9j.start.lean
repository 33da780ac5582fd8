/-! The class behind its constructor. -/
/-- what a cell holds at a place, as a number -/
def xOf (h : mj_H) (a i : Nat) : Int := match h[a]? with
  | some (.inl (_, _, f)) => (match f i with
    | .int x => x.toInt
    | .long x => x.toInt
    | _ => 0)
  | some (.inr (_, fs)) => (match fs[i]? with
    | some (.int x) => x.toInt
    | some (.long x) => x.toInt
    | some (.ref r) => (r : Int)
    | _ => 0)
  | none => 0
def tmr (k a i : Nat) : Nat := match k with
  | 10 => [a + 1, a + 8, a + 9].getD i 0
  | 11 => [20, 50, 80, 110, 164, 166, 168, 170].getD i 0
  | 13 => [a + 3, a + 1].getD i 0
  | 14 => [19, 0, 0, 0, 0, 456, 466, 476].getD i 0
  | 15 => [19, 172, 0, 0, 0, 0, 445, 0, 447, 449, 451, 453].getD i 0
  | 16 => [19, 173, 0, 174, 176, 178].getD i 0
  | 19 => [2, 12, 0, 0, 13, 15, 17, 19, 172, 444, 455, 477, 479, 481, 482].getD i 0
  | _ => [a + 1].getD i 0
theorem tmr_1 : ((List.range 563).all (fun a => (List.range (jfs (cK a)).length).all fun i => match (jfs (cK a))[i]? with | some c => decide (c < 100) || decide (cR a i = tmr (cK a) a i) | none => true)) = true := by decide +kernel
theorem tmg_1 : ((List.range 563).all (fun a => !(decide (4 ≤ cK a) && decide (cK a ≤ 7)) || ((List.range (cL a)).all fun i => decide (cR a i = jMg (cK a) a i)))) = true := by decide +kernel
theorem tmk_1 : ((List.range 563).all (fun a => decide (cK a ≤ 7) || decide (cK a = 10) || decide (cK a = 11) || decide (cK a = 12) || decide (cK a = 13) || decide (cK a = 14) || decide (cK a = 15) || decide (cK a = 16) || decide (cK a = 17) || decide (cK a = 18) || decide (cK a = 19) || decide (cK a = 27))) = true := by decide +kernel
theorem tml_1 : ((List.range 563).all (fun a => !(decide (cK a = 2)) || decide (cL a = 13))) = true := by decide +kernel
theorem tmw_1 : ((List.range 563).all (fun a => !(decide (cK a = 18) || decide (cK a = 12)) || decide (cK (a + 1) = 1))) = true := by decide +kernel
theorem tmr_of {a i c k : Nat} (ka : cK a = k) (hk : k ≠ 0) (hc : (jfs k)[i]? = some c) (h1 : 100 ≤ c) : cR a i = tmr k a i := by
  subst ka
  have h2 := List.all_eq_true.mp (jall tmr_1 (cK_in hk)) i (List.mem_range.mpr (List.getElem?_eq_some_iff.mp hc).1)
  rw [hc] at h2
  have h3 : (decide (c < 100) || decide (cR a i = tmr (cK a) a i)) = true := h2
  rw [Bool.or_eq_true, decide_eq_true_eq, decide_eq_true_eq] at h3
  rcases h3 with h3 | h3
  · omega
  · exact h3
section SMF
variable {h : mj_H} {a i c k cc : Nat} {fs : List Value} {v : Value} {tm : Int}
theorem xOf_i {w : Int32} (h1 : h[a]? = some (.inr (cc, fs))) (h2 : fs[i]? = some (.int w)) : xOf h a i = w.toInt := by
  simp only [xOf, h1, h2]
theorem xOf_l {w : Int64} (h1 : h[a]? = some (.inr (cc, fs))) (h2 : fs[i]? = some (.long w)) : xOf h a i = w.toInt := by
  simp only [xOf, h1, h2]
theorem xOf_r {r : Nat} (h1 : h[a]? = some (.inr (cc, fs))) (h2 : fs[i]? = some (.ref r)) : xOf h a i = (r : Int) := by
  simp only [xOf, h1, h2]
theorem xOf_ai {t n : Nat} {f : Nat → Value} {w : Int32} (h1 : h[a]? = some (.inl (t, n, f))) (h2 : f i = .int w) : xOf h a i = w.toInt := by
  simp only [xOf, h1, h2]
theorem xOf_al {t n : Nat} {f : Nat → Value} {w : Int64} (h1 : h[a]? = some (.inl (t, n, f))) (h2 : f i = .long w) : xOf h a i = w.toInt := by
  simp only [xOf, h1, h2]
theorem lsc {n : Nat} {fs : List Value} (q : fs.length = n + 1) : ∃ (v : Value) (t : List Value), fs = v :: t ∧ t.length = n := by
  cases fs with
  | nil => cases q
  | cons v t => exact ⟨v, t, rfl, Nat.succ.inj q⟩
theorem lsz {fs : List Value} (q : fs.length = 0) : fs = [] := by
  cases fs with
  | nil => rfl
  | cons v t => cases q
def sMf (tm : Int) (k a : Nat) (fs : List Value) : Prop := ∀ i c, (jfs k)[i]? = some c → ∃ v, fs[i]? = some v ∧ jfv cK cR tm c a i v
theorem sM_r (ka : cK a = k) (hk : k ≠ 0) (hf : sMf tm k a fs) (hc : (jfs k)[i]? = some c) (h1 : 100 ≤ c) (hv : fs[i]? = some v) : v = .ref (tmr k a i) := by
  obtain ⟨v2, e, q⟩ := hf i c hc
  rw [hv] at e
  cases e
  unfold jfv at q
  rw [if_pos h1] at q
  rw [q, tmr_of ka hk hc h1]
theorem sM_n (hf : sMf tm k a fs) (hc : (jfs k)[i]? = some c) (h1 : c < 100) (h2 : c ≠ 1) (h3 : c ≠ 4) (hv : fs[i]? = some v) : ∃ x : Int, jlo tm c ≤ x ∧ x ≤ jhi tm c ∧ v = .int (jn x) := by
  obtain ⟨v2, e, q⟩ := hf i c hc
  rw [hv] at e
  cases e
  unfold jfv at q
  rw [if_neg (by omega), if_neg h2, if_neg h3] at q
  exact q
theorem sM_i (hh : h[a]? = some (.inr (cc, fs))) (hf : sMf tm k a fs) (hc : (jfs k)[i]? = some c) (h1 : c < 100) (h2 : c ≠ 1) (h3 : c ≠ 4) (hv : fs[i]? = some v) : v = .int (jn (xOf h a i)) := by
  obtain ⟨x, _, _, rfl⟩ := sM_n hf hc h1 h2 h3 hv
  rw [xOf_i hh hv, jn_of]
theorem sM_l (hh : h[a]? = some (.inr (cc, fs))) (hf : sMf tm k a fs) (hc : (jfs k)[i]? = some 1) (hv : fs[i]? = some v) : v = .long (jl (xOf h a i)) := by
  obtain ⟨v2, e, q⟩ := hf i 1 hc
  rw [hv] at e
  cases e
  unfold jfv at q
  rw [if_neg (by decide), if_pos rfl] at q
  obtain ⟨x, _, rfl⟩ := q
  rw [xOf_l hh hv, jl_of]
theorem sM_4 (hh : h[a]? = some (.inr (cc, fs))) (hf : sMf tm k a fs) (hc : (jfs k)[i]? = some 4) (hv : fs[i]? = some v) : v = .ref (xOf h a i).toNat := by
  obtain ⟨v2, e, q⟩ := hf i 4 hc
  rw [hv] at e
  cases e
  unfold jfv at q
  rw [if_neg (by decide), if_neg (by decide), if_pos rfl] at q
  obtain ⟨b, _, rfl⟩ := q
  rw [xOf_r hh hv, Int.toNat_natCast]
theorem sMo_10 (ka : cK a = 10) (hh : h[a]? = some (.inr (cc, fs))) (hl : fs.length = 4) (hf : sMf tm 10 a fs) : fs = jMf (xOf h) 10 a := by
  obtain ⟨v0, u0, rfl, hl⟩ := lsc (n := 3) hl
  obtain ⟨v1, u1, rfl, hl⟩ := lsc (n := 2) hl
  obtain ⟨v2, u2, rfl, hl⟩ := lsc (n := 1) hl
  obtain ⟨v3, u3, rfl, hl⟩ := lsc (n := 0) hl
  obtain rfl := lsz hl
  have e0 := sM_r ka (by decide) hf (i := 0) (c := 106) rfl (by decide) rfl
  have e1 := sM_r ka (by decide) hf (i := 1) (c := 101) rfl (by decide) rfl
  have e2 := sM_r ka (by decide) hf (i := 2) (c := 101) rfl (by decide) rfl
  have e3 := sM_i hh hf (i := 3) (c := 9) rfl (by decide) (by decide) (by decide) rfl
  rw [e0, e1, e2, e3]
  first
  | rfl
  | done
theorem sMo_11 (ka : cK a = 11) (hh : h[a]? = some (.inr (cc, fs))) (hl : fs.length = 8) (hf : sMf tm 11 a fs) : fs = jMf (xOf h) 11 a := by
  obtain ⟨v0, u0, rfl, hl⟩ := lsc (n := 7) hl
  obtain ⟨v1, u1, rfl, hl⟩ := lsc (n := 6) hl
  obtain ⟨v2, u2, rfl, hl⟩ := lsc (n := 5) hl
  obtain ⟨v3, u3, rfl, hl⟩ := lsc (n := 4) hl
  obtain ⟨v4, u4, rfl, hl⟩ := lsc (n := 3) hl
  obtain ⟨v5, u5, rfl, hl⟩ := lsc (n := 2) hl
  obtain ⟨v6, u6, rfl, hl⟩ := lsc (n := 1) hl
  obtain ⟨v7, u7, rfl, hl⟩ := lsc (n := 0) hl
  obtain rfl := lsz hl
  have e0 := sM_r ka (by decide) hf (i := 0) (c := 113) rfl (by decide) rfl
  have e1 := sM_r ka (by decide) hf (i := 1) (c := 113) rfl (by decide) rfl
  have e2 := sM_r ka (by decide) hf (i := 2) (c := 113) rfl (by decide) rfl
  have e3 := sM_r ka (by decide) hf (i := 3) (c := 113) rfl (by decide) rfl
  have e4 := sM_r ka (by decide) hf (i := 4) (c := 118) rfl (by decide) rfl
  have e5 := sM_r ka (by decide) hf (i := 5) (c := 118) rfl (by decide) rfl
  have e6 := sM_r ka (by decide) hf (i := 6) (c := 118) rfl (by decide) rfl
  have e7 := sM_r ka (by decide) hf (i := 7) (c := 112) rfl (by decide) rfl
  rw [e0, e1, e2, e3, e4, e5, e6, e7]
  first
  | rfl
  | done
theorem sMo_13 (ka : cK a = 13) (hh : h[a]? = some (.inr (cc, fs))) (hl : fs.length = 3) (hf : sMf tm 13 a fs) : fs = jMf (xOf h) 13 a := by
  obtain ⟨v0, u0, rfl, hl⟩ := lsc (n := 2) hl
  obtain ⟨v1, u1, rfl, hl⟩ := lsc (n := 1) hl
  obtain ⟨v2, u2, rfl, hl⟩ := lsc (n := 0) hl
  obtain rfl := lsz hl
  have e0 := sM_r ka (by decide) hf (i := 0) (c := 104) rfl (by decide) rfl
  have e1 := sM_r ka (by decide) hf (i := 1) (c := 118) rfl (by decide) rfl
  have e2 := sM_i hh hf (i := 2) (c := 6) rfl (by decide) (by decide) (by decide) rfl
  rw [e0, e1, e2]
  first
  | rfl
  | done
theorem sMo_14 (ka : cK a = 14) (hh : h[a]? = some (.inr (cc, fs))) (hl : fs.length = 8) (hf : sMf tm 14 a fs) : fs = jMf (xOf h) 14 a := by
  obtain ⟨v0, u0, rfl, hl⟩ := lsc (n := 7) hl
  obtain ⟨v1, u1, rfl, hl⟩ := lsc (n := 6) hl
  obtain ⟨v2, u2, rfl, hl⟩ := lsc (n := 5) hl
  obtain ⟨v3, u3, rfl, hl⟩ := lsc (n := 4) hl
  obtain ⟨v4, u4, rfl, hl⟩ := lsc (n := 3) hl
  obtain ⟨v5, u5, rfl, hl⟩ := lsc (n := 2) hl
  obtain ⟨v6, u6, rfl, hl⟩ := lsc (n := 1) hl
  obtain ⟨v7, u7, rfl, hl⟩ := lsc (n := 0) hl
  obtain rfl := lsz hl
  have e0 := sM_r ka (by decide) hf (i := 0) (c := 111) rfl (by decide) rfl
  have e1 := sM_4 hh hf (i := 1) rfl rfl
  have e2 := sM_i hh hf (i := 2) (c := 0) rfl (by decide) (by decide) (by decide) rfl
  have e3 := sM_i hh hf (i := 3) (c := 0) rfl (by decide) (by decide) (by decide) rfl
  have e4 := sM_i hh hf (i := 4) (c := 2) rfl (by decide) (by decide) (by decide) rfl
  have e5 := sM_r ka (by decide) hf (i := 5) (c := 106) rfl (by decide) rfl
  have e6 := sM_r ka (by decide) hf (i := 6) (c := 106) rfl (by decide) rfl
  have e7 := sM_r ka (by decide) hf (i := 7) (c := 102) rfl (by decide) rfl
  rw [e0, e1, e2, e3, e4, e5, e6, e7]
  first
  | rfl
  | done
theorem sMo_15 (ka : cK a = 15) (hh : h[a]? = some (.inr (cc, fs))) (hl : fs.length = 12) (hf : sMf tm 15 a fs) : fs = jMf (xOf h) 15 a := by
  obtain ⟨v0, u0, rfl, hl⟩ := lsc (n := 11) hl
  obtain ⟨v1, u1, rfl, hl⟩ := lsc (n := 10) hl
  obtain ⟨v2, u2, rfl, hl⟩ := lsc (n := 9) hl
  obtain ⟨v3, u3, rfl, hl⟩ := lsc (n := 8) hl
  obtain ⟨v4, u4, rfl, hl⟩ := lsc (n := 7) hl
  obtain ⟨v5, u5, rfl, hl⟩ := lsc (n := 6) hl
  obtain ⟨v6, u6, rfl, hl⟩ := lsc (n := 5) hl
  obtain ⟨v7, u7, rfl, hl⟩ := lsc (n := 4) hl
  obtain ⟨v8, u8, rfl, hl⟩ := lsc (n := 3) hl
  obtain ⟨v9, u9, rfl, hl⟩ := lsc (n := 2) hl
  obtain ⟨v10, u10, rfl, hl⟩ := lsc (n := 1) hl
  obtain ⟨v11, u11, rfl, hl⟩ := lsc (n := 0) hl
  obtain rfl := lsz hl
  have e0 := sM_r ka (by decide) hf (i := 0) (c := 111) rfl (by decide) rfl
  have e1 := sM_r ka (by decide) hf (i := 1) (c := 116) rfl (by decide) rfl
  have e2 := sM_i hh hf (i := 2) (c := 2) rfl (by decide) (by decide) (by decide) rfl
  have e3 := sM_i hh hf (i := 3) (c := 0) rfl (by decide) (by decide) (by decide) rfl
  have e4 := sM_i hh hf (i := 4) (c := 0) rfl (by decide) (by decide) (by decide) rfl
  have e5 := sM_l hh hf (i := 5) rfl rfl
  have e6 := sM_r ka (by decide) hf (i := 6) (c := 118) rfl (by decide) rfl
  have e7 := sM_i hh hf (i := 7) (c := 2) rfl (by decide) (by decide) (by decide) rfl
  have e8 := sM_r ka (by decide) hf (i := 8) (c := 118) rfl (by decide) rfl
  have e9 := sM_r ka (by decide) hf (i := 9) (c := 118) rfl (by decide) rfl
  have e10 := sM_r ka (by decide) hf (i := 10) (c := 118) rfl (by decide) rfl
  have e11 := sM_r ka (by decide) hf (i := 11) (c := 118) rfl (by decide) rfl
  rw [e0, e1, e2, e3, e4, e5, e6, e7, e8, e9, e10, e11]
  first
  | rfl
  | done
theorem sMo_16 (ka : cK a = 16) (hh : h[a]? = some (.inr (cc, fs))) (hl : fs.length = 6) (hf : sMf tm 16 a fs) : fs = jMf (xOf h) 16 a := by
  obtain ⟨v0, u0, rfl, hl⟩ := lsc (n := 5) hl
  obtain ⟨v1, u1, rfl, hl⟩ := lsc (n := 4) hl
  obtain ⟨v2, u2, rfl, hl⟩ := lsc (n := 3) hl
  obtain ⟨v3, u3, rfl, hl⟩ := lsc (n := 2) hl
  obtain ⟨v4, u4, rfl, hl⟩ := lsc (n := 1) hl
  obtain ⟨v5, u5, rfl, hl⟩ := lsc (n := 0) hl
  obtain rfl := lsz hl
  have e0 := sM_r ka (by decide) hf (i := 0) (c := 111) rfl (by decide) rfl
  have e1 := sM_r ka (by decide) hf (i := 1) (c := 105) rfl (by decide) rfl
  have e2 := sM_i hh hf (i := 2) (c := 0) rfl (by decide) (by decide) (by decide) rfl
  have e3 := sM_r ka (by decide) hf (i := 3) (c := 118) rfl (by decide) rfl
  have e4 := sM_r ka (by decide) hf (i := 4) (c := 118) rfl (by decide) rfl
  have e5 := sM_r ka (by decide) hf (i := 5) (c := 118) rfl (by decide) rfl
  rw [e0, e1, e2, e3, e4, e5]
  first
  | rfl
  | done
theorem sMo_17 (ka : cK a = 17) (hh : h[a]? = some (.inr (cc, fs))) (hl : fs.length = 2) (hf : sMf tm 17 a fs) : fs = jMf (xOf h) 17 a := by
  obtain ⟨v0, u0, rfl, hl⟩ := lsc (n := 1) hl
  obtain ⟨v1, u1, rfl, hl⟩ := lsc (n := 0) hl
  obtain rfl := lsz hl
  have e0 := sM_r ka (by decide) hf (i := 0) (c := 103) rfl (by decide) rfl
  have e1 := sM_i hh hf (i := 1) (c := 5) rfl (by decide) (by decide) (by decide) rfl
  rw [e0, e1]
  first
  | rfl
  | done
theorem sMo_19 (ka : cK a = 19) (hh : h[a]? = some (.inr (cc, fs))) (hl : fs.length = 16) (hf : sMf tm 19 a fs) : fs = jMf (xOf h) 19 a := by
  obtain ⟨v0, u0, rfl, hl⟩ := lsc (n := 15) hl
  obtain ⟨v1, u1, rfl, hl⟩ := lsc (n := 14) hl
  obtain ⟨v2, u2, rfl, hl⟩ := lsc (n := 13) hl
  obtain ⟨v3, u3, rfl, hl⟩ := lsc (n := 12) hl
  obtain ⟨v4, u4, rfl, hl⟩ := lsc (n := 11) hl
  obtain ⟨v5, u5, rfl, hl⟩ := lsc (n := 10) hl
  obtain ⟨v6, u6, rfl, hl⟩ := lsc (n := 9) hl
  obtain ⟨v7, u7, rfl, hl⟩ := lsc (n := 8) hl
  obtain ⟨v8, u8, rfl, hl⟩ := lsc (n := 7) hl
  obtain ⟨v9, u9, rfl, hl⟩ := lsc (n := 6) hl
  obtain ⟨v10, u10, rfl, hl⟩ := lsc (n := 5) hl
  obtain ⟨v11, u11, rfl, hl⟩ := lsc (n := 4) hl
  obtain ⟨v12, u12, rfl, hl⟩ := lsc (n := 3) hl
  obtain ⟨v13, u13, rfl, hl⟩ := lsc (n := 2) hl
  obtain ⟨v14, u14, rfl, hl⟩ := lsc (n := 1) hl
  obtain ⟨v15, u15, rfl, hl⟩ := lsc (n := 0) hl
  obtain rfl := lsz hl
  have e0 := sM_r ka (by decide) hf (i := 0) (c := 110) rfl (by decide) rfl
  have e1 := sM_r ka (by decide) hf (i := 1) (c := 107) rfl (by decide) rfl
  have e2 := sM_i hh hf (i := 2) (c := 0) rfl (by decide) (by decide) (by decide) rfl
  have e3 := sM_i hh hf (i := 3) (c := 0) rfl (by decide) (by decide) (by decide) rfl
  have e4 := sM_r ka (by decide) hf (i := 4) (c := 127) rfl (by decide) rfl
  have e5 := sM_r ka (by decide) hf (i := 5) (c := 117) rfl (by decide) rfl
  have e6 := sM_r ka (by decide) hf (i := 6) (c := 117) rfl (by decide) rfl
  have e7 := sM_r ka (by decide) hf (i := 7) (c := 111) rfl (by decide) rfl
  have e8 := sM_r ka (by decide) hf (i := 8) (c := 116) rfl (by decide) rfl
  have e9 := sM_r ka (by decide) hf (i := 9) (c := 115) rfl (by decide) rfl
  have e10 := sM_r ka (by decide) hf (i := 10) (c := 114) rfl (by decide) rfl
  have e11 := sM_r ka (by decide) hf (i := 11) (c := 118) rfl (by decide) rfl
  have e12 := sM_r ka (by decide) hf (i := 12) (c := 118) rfl (by decide) rfl
  have e13 := sM_r ka (by decide) hf (i := 13) (c := 102) rfl (by decide) rfl
  have e14 := sM_r ka (by decide) hf (i := 14) (c := 102) rfl (by decide) rfl
  have e15 := sM_i hh hf (i := 15) (c := 0) rfl (by decide) (by decide) (by decide) rfl
  rw [e0, e1, e2, e3, e4, e5, e6, e7, e8, e9, e10, e11, e12, e13, e14, e15]
  first
  | rfl
  | done
theorem sMo_27 (ka : cK a = 27) (hh : h[a]? = some (.inr (cc, fs))) (hl : fs.length = 2) (hf : sMf tm 27 a fs) : fs = jMf (xOf h) 27 a := by
  obtain ⟨v0, u0, rfl, hl⟩ := lsc (n := 1) hl
  obtain ⟨v1, u1, rfl, hl⟩ := lsc (n := 0) hl
  obtain rfl := lsz hl
  have e0 := sM_r ka (by decide) hf (i := 0) (c := 103) rfl (by decide) rfl
  have e1 := sM_i hh hf (i := 1) (c := 7) rfl (by decide) (by decide) (by decide) rfl
  rw [e0, e1]
  first
  | rfl
  | done
theorem sMo_18 (ka : cK a = 18) (hh : h[a]? = some (.inr (cc, fs))) (hl : fs.length = 3) (hf : sMf tm 18 a fs) : ∃ x : Int, 0 ≤ x ∧ x ≤ 1000 ∧ fs = [.ref (a + 1), .int (jn x), .int (jn (xOf h a 2))] ∧ xOf h a 1 = x := by
  obtain ⟨v0, u0, rfl, hl⟩ := lsc (n := 2) hl
  obtain ⟨v1, u1, rfl, hl⟩ := lsc (n := 1) hl
  obtain ⟨v2, u2, rfl, hl⟩ := lsc (n := 0) hl
  obtain rfl := lsz hl
  have e0 := sM_r ka (by decide) hf (i := 0) (c := 101) rfl (by decide) rfl
  obtain ⟨x, x0, x1, e1⟩ := sM_n hf (i := 1) (c := 10) rfl (by decide) (by decide) (by decide) rfl
  have e2 := sM_i hh hf (i := 2) (c := 0) rfl (by decide) (by decide) (by decide) rfl
  have x0 : 0 ≤ x := x0
  have x1 : x ≤ 1000 := x1
  have e3 : xOf h a 1 = (jn x).toInt := xOf_i hh (congrArg some e1)
  refine ⟨x, x0, x1, ?_, e3.trans (jn_toInt ⟨by omega, by omega⟩)⟩
  rw [e0, e1, e2]
  first
  | rfl
  | done
theorem sMo_12 (ka : cK a = 12) (hh : h[a]? = some (.inr (cc, fs))) (hl : fs.length = 4) (hf : sMf tm 12 a fs) : ∃ x : Int, 0 ≤ x ∧ x ≤ 60 ∧ fs = [.ref (a + 1), .int (jn x), .int (jn (xOf h a 2)), .long (jl (xOf h a 3))] := by
  obtain ⟨v0, u0, rfl, hl⟩ := lsc (n := 3) hl
  obtain ⟨v1, u1, rfl, hl⟩ := lsc (n := 2) hl
  obtain ⟨v2, u2, rfl, hl⟩ := lsc (n := 1) hl
  obtain ⟨v3, u3, rfl, hl⟩ := lsc (n := 0) hl
  obtain rfl := lsz hl
  have e0 := sM_r ka (by decide) hf (i := 0) (c := 101) rfl (by decide) rfl
  obtain ⟨x, x0, x1, e1⟩ := sM_n hf (i := 1) (c := 8) rfl (by decide) (by decide) (by decide) rfl
  have e2 := sM_i hh hf (i := 2) (c := 0) rfl (by decide) (by decide) (by decide) rfl
  have e3 := sM_l hh hf (i := 3) rfl rfl
  refine ⟨x, x0, x1, ?_⟩
  rw [e0, e1, e2, e3]
  first
  | rfl
  | done
end SMF
section SMJ
variable {h g : mj_H} {n : Nat} {tm : Int}
theorem sM_ar (o : jO cK cL cR g n tm h) {a : Nat} (ka : cK a = 1 ∨ cK a = 3) : h[a]? = some (.inl (jak (cK a), cL a, fun j => .int (jn (xOf h a j)))) := by
  obtain ⟨e, h1, h2⟩ := o.2.2.2 a (by omega)
  unfold jCf at h2
  rw [if_pos (by omega)] at h2
  obtain ⟨f, rfl, hf⟩ := h2
  rw [h1]
  have : f = fun j => .int (jn (xOf h a j)) := funext fun j => by
    have hj := hf j
    rw [if_pos ka] at hj
    obtain ⟨x, _, e⟩ := hj
    rw [xOf_ai h1 e, jn_of, e]
  rw [← this]
theorem sM_al (o : jO cK cL cR g n tm h) {a : Nat} (ka : cK a = 2) : h[a]? = some (.inl (1, 13, fun j => .long (jl (xOf h a j)))) := by
  obtain ⟨e, h1, h2⟩ := o.2.2.2 a (by omega)
  have hL : cL a = 13 := by
    have h3 := jall tml_1 (cK_in (a := a) (by omega))
    have h3 : (!(decide (cK a = 2)) || decide (cL a = 13)) = true := h3
    rw [ka] at h3
    exact of_decide_eq_true h3
  unfold jCf at h2
  rw [if_pos (by omega)] at h2
  obtain ⟨f, rfl, hf⟩ := h2
  rw [h1, ka, hL]
  have : f = fun j => .long (jl (xOf h a j)) := funext fun j => by
    have hj := hf j
    rw [if_neg (by omega), if_pos ka] at hj
    obtain ⟨x, _, e⟩ := hj
    rw [xOf_al h1 e, jl_of, e]
  rw [← this]
  rfl
theorem sM_ob (o : jO cK cL cR g n tm h) {a : Nat} (ka : 7 < cK a) : ∃ fs : List Value, h[a]? = some (.inr (jkc (cK a), fs)) ∧ fs.length = (jfs (cK a)).length ∧ sMf tm (cK a) a fs := by
  obtain ⟨e, h1, h2⟩ := o.2.2.2 a (by omega)
  unfold jCf at h2
  rw [if_neg (by omega)] at h2
  obtain ⟨fs, rfl, hl, hf⟩ := h2
  exact ⟨fs, h1, hl, hf⟩
/-- what the typed rules tell of a heap is a memory; of a Wide no more than its kind, but where it holds 0 -/
theorem sM_jM (o : jO cK cL cR g n tm h) {B : Int} (hB : 1500 < jnl B.natAbs) (by1 : ∀ x, x ∈ bydl → xOf h x 1 = 0 ∧ xOf h x 2 = 0) : jM g n (fun a => if a ∈ bydl then 0 else B) (xOf h) h := by
  refine ⟨o.1, o.2.2.1, fun a => ?_⟩
  by_cases k0 : cK a = 0
  · unfold jMk
    rw [if_pos k0]
    trivial
  have ha := cK_in k0
  unfold jMk
  rw [if_neg k0]
  by_cases k18 : cK a = 18
  · rw [if_pos k18]
    obtain ⟨fs, h1, hl, hf⟩ := sM_ob o (a := a) (by omega)
    rw [k18] at h1 hl hf
    obtain ⟨x, x0, x1, e, ex⟩ := sMo_18 k18 h1 hl hf
    have k1 : cK (a + 1) = 1 := by
      have h3 : (!(decide (cK a = 18) || decide (cK a = 12)) || decide (cK (a + 1) = 1)) = true := jall tmw_1 ha
      rw [k18] at h3
      exact of_decide_eq_true h3
    have h2 := sM_ar o (a := a + 1) (Or.inl k1)
    rw [k1] at h2
    rw [e] at h1
    refine ⟨⟨fun j => jn (xOf h (a + 1) j), x.toNat, jn (xOf h a 2), by omega, by rw [show ((x.toNat : Nat) : Int) = x by omega]; exact h1, h2⟩, fun hv => ?_⟩
    have hv : jnl (if a ∈ bydl then (0 : Int) else B).natAbs ≤ 1500 := hv
    show wW h a (cL (a + 1)) (if a ∈ bydl then (0 : Int) else B)
    by_cases c : a ∈ bydl
    · rw [if_pos c]
      obtain ⟨y1, y2⟩ := by1 a c
      refine ⟨fun j => jn (xOf h (a + 1) j), ?_, h2, fun j hj => ?_, ?_⟩
      · rw [h1, y2, show x = 0 by omega]
        show _ = some (Sum.inr (8, [Value.ref (a + 1), Value.int (jn ((jnl 0 : Nat) : Int)), Value.int (jn (jsg 0))]))
        rw [jnl_zero]
        rfl
      · have hj : j < jnl 0 := hj
        rw [jnl_zero] at hj
        omega
      · show jnl 0 ≤ _
        rw [jnl_zero]
        exact Nat.zero_le _
    · rw [if_neg c] at hv
      omega
  rw [if_neg k18]
  by_cases k12 : cK a = 12
  · rw [if_pos k12]
    obtain ⟨fs, h1, hl, hf⟩ := sM_ob o (a := a) (by omega)
    rw [k12] at h1 hl hf
    obtain ⟨x, x0, x1, e⟩ := sMo_12 k12 h1 hl hf
    have k1 : cK (a + 1) = 1 := by
      have h3 : (!(decide (cK a = 18) || decide (cK a = 12)) || decide (cK (a + 1) = 1)) = true := jall tmw_1 ha
      rw [k12] at h3
      exact of_decide_eq_true h3
    have h2 := sM_ar o (a := a + 1) (Or.inl k1)
    rw [k1] at h2
    rw [e] at h1
    refine ⟨⟨fun j => jn (xOf h (a + 1) j), x.toNat, jn (xOf h a 2), jl (xOf h a 3), by omega, by rw [show ((x.toNat : Nat) : Int) = x by omega]; exact h1, h2⟩, fun hv => ?_⟩
    have hv : jnl (if a ∈ bydl then (0 : Int) else B).natAbs ≤ 1500 := hv
    rw [if_neg (fun c => by have := bydl_k c; omega)] at hv
    omega
  rw [if_neg k12]
  by_cases k1 : cK a = 1
  · rw [if_pos k1]
    refine Or.inr ?_
    have h2 := sM_ar o (a := a) (Or.inl k1)
    rw [k1] at h2
    exact h2
  rw [if_neg k1]
  by_cases k2 : cK a = 2
  · rw [if_pos k2]
    exact sM_al o k2
  rw [if_neg k2]
  by_cases k3 : cK a = 3
  · rw [if_pos k3]
    have h2 := sM_ar o (a := a) (Or.inr k3)
    rw [k3] at h2
    exact h2
  rw [if_neg k3]
  by_cases k7 : cK a ≤ 7
  · rw [if_pos k7]
    obtain ⟨e, h1, h2⟩ := o.2.2.2 a k0
    unfold jCf at h2
    rw [if_pos k7] at h2
    obtain ⟨f, rfl, hf⟩ := h2
    refine ⟨f, h1, fun i hi => ?_⟩
    have hj := hf i
    rw [if_neg (by omega), if_neg k2] at hj
    rw [hj hi]
    have h3 : (!(decide (4 ≤ cK a) && decide (cK a ≤ 7)) || ((List.range (cL a)).all fun i => decide (cR a i = jMg (cK a) a i))) = true := jall tmg_1 ha
    rw [decide_eq_true (show 4 ≤ cK a by omega), decide_eq_true k7] at h3
    have h4 := List.all_eq_true.mp (show ((List.range (cL a)).all fun i => decide (cR a i = jMg (cK a) a i)) = true from h3) i (List.mem_range.mpr hi)
    rw [of_decide_eq_true h4]
  rw [if_neg k7]
  obtain ⟨fs, h1, hl, hf⟩ := sM_ob o (a := a) (by omega)
  rw [h1]
  have h3 := jall tmk_1 ha
  simp only [Bool.or_eq_true, decide_eq_true_eq] at h3
  have h4 : cK a = 10 ∨ cK a = 11 ∨ cK a = 13 ∨ cK a = 14 ∨ cK a = 15 ∨ cK a = 16 ∨ cK a = 17 ∨ cK a = 19 ∨ cK a = 27 := by omega
  have h5 : fs = jMf (xOf h) (cK a) a := by
    rcases h4 with q | q | q | q | q | q | q | q | q
    · rw [q] at h1 hl hf ⊢
      exact sMo_10 q h1 hl hf
    · rw [q] at h1 hl hf ⊢
      exact sMo_11 q h1 hl hf
    · rw [q] at h1 hl hf ⊢
      exact sMo_13 q h1 hl hf
    · rw [q] at h1 hl hf ⊢
      exact sMo_14 q h1 hl hf
    · rw [q] at h1 hl hf ⊢
      exact sMo_15 q h1 hl hf
    · rw [q] at h1 hl hf ⊢
      exact sMo_16 q h1 hl hf
    · rw [q] at h1 hl hf ⊢
      exact sMo_17 q h1 hl hf
    · rw [q] at h1 hl hf ⊢
      exact sMo_19 q h1 hl hf
    · rw [q] at h1 hl hf ⊢
      exact sMo_27 q h1 hl hf
  rw [← h5]
end SMJ
/-! The constructor, evaluated. -/
def kS_o : mj_H := [.inr (9, [.null, .null, .int 0, .int 0, .null, .null, .null, .null, .null, .null, .null, .null, .null, .null, .null, .int 0])]
def kS_c (h : mj_H) (a i : Nat) (z : Int) : Bool := match h[a]? with
  | some (.inl (_, _, f)) => (match f i with
    | .int x => decide (x.toInt = z)
    | .long x => decide (x.toInt = z)
    | _ => false)
  | some (.inr (_, fs)) => (match fs[i]? with
    | some (.int x) => decide (x.toInt = z)
    | some (.long x) => decide (x.toInt = z)
    | _ => false)
  | none => false
def kS_h (h : mj_H) : Bool := (bydl.all fun x => kS_c h (x - 1) 1 0 && kS_c h (x - 1) 2 0) && (pls.all fun p => kS_c h (p - 1) 2 (-1)) && kS_c h 0 2 0 && kS_c h 0 3 0 && kS_c h 1 3 0 && kS_c h 14 1 0 && kS_c h 16 1 0 && ((List.range 6).all fun r => (List.range 13).all fun j => kS_c h (3 + r) j (riN (r * 13 + j)))
def kS_r (r : Option mj_R) : Bool := match r with
  | some r => kS_h r.2
  | none => false
theorem kS_ok : kS_r (mj_run mj_P 3000 8 101 [.ref 0] kS_o) = true := by decide +kernel
theorem kS_x {h h' : mj_H} {a i : Nat} {z : Int} (he : ∀ (k : Nat) (e : mj_E), h[k]? = some e → h'[k + 1]? = some (mj_rE (fun k => k + 1) e)) (c : kS_c h a i z = true) : xOf h' (a + 1) i = z := by
  unfold kS_c at c
  cases e : h[a]? with
  | none =>
    rw [e] at c
    cases c
  | some q =>
    rw [e] at c
    have h2 := he a q e
    cases q with
    | inl p =>
      obtain ⟨t, n, f⟩ := p
      have h2 : h'[a + 1]? = some (.inl (t, n, fun j => mj_rn (fun k => k + 1) (f j))) := h2
      have c : (match f i with
        | .int x => decide (x.toInt = z)
        | .long x => decide (x.toInt = z)
        | _ => false) = true := c
      cases v : f i with
      | int x =>
        rw [v] at c
        rw [xOf_ai (w := x) h2 (congrArg (mj_rn (fun k => k + 1)) v)]
        exact of_decide_eq_true c
      | long x =>
        rw [v] at c
        rw [xOf_al (w := x) h2 (congrArg (mj_rn (fun k => k + 1)) v)]
        exact of_decide_eq_true c
      | _ =>
        rw [v] at c
        first
        | cases c
        | simp at c
    | inr p =>
      obtain ⟨cc, fs⟩ := p
      have h2 : h'[a + 1]? = some (.inr (cc, fs.map (mj_rn (fun k => k + 1)))) := h2
      have c : (match fs[i]? with
        | some (.int x) => decide (x.toInt = z)
        | some (.long x) => decide (x.toInt = z)
        | _ => false) = true := c
      cases v : fs[i]? with
      | none =>
        rw [v] at c
        cases c
      | some w =>
        rw [v] at c
        cases w with
        | int x =>
          rw [xOf_i (w := x) h2 (by rw [List.getElem?_map, v]; first | rfl | done)]
          exact of_decide_eq_true c
        | long x =>
          rw [xOf_l (w := x) h2 (by rw [List.getElem?_map, v]; first | rfl | done)]
          exact of_decide_eq_true c
        | _ =>
          first
          | cases c
          | simp at c
theorem kS_run {hz : mj_H} (ha : hz[1]? = some (.inr (9, [.null, .null, .int 0, .int 0, .null, .null, .null, .null, .null, .null, .null, .null, .null, .null, .null, .int 0]))) (hn : hz.length = 2) : mj_Ok 8 101 [.ref 1] hz (fun r => ∃ hK : mj_H, kS_h hK = true ∧ ∀ (k : Nat) (e : mj_E), hK[k]? = some e → r.2[k + 1]? = some (mj_rE (fun k => k + 1) e)) := by
  have h0 := kS_ok
  generalize hR : mj_run mj_P 3000 8 101 [.ref 0] kS_o = R at h0
  cases R with
  | none => cases h0
  | some r =>
    have h1 : kS_h r.2 = true := h0
    obtain ⟨h', g1, g2, _⟩ := mj_ren_run (ρ := fun k => k + 1) (n := 1) (m := 2) (fun k hk => by omega) (fun i j hij => by have hij : i + 1 = j + 1 := hij; omega) mj_P 3000 8 101 [.ref 0] kS_o hz r hR ⟨Nat.le_refl 1, by rw [hn]; rfl, fun k e he => by
      match k, he with
      | 0, he =>
        have he : (some (Sum.inr (9, [.null, .null, .int 0, .int 0, .null, .null, .null, .null, .null, .null, .null, .null, .null, .null, .null, .int 0])) : Option mj_E) = some e := he
        cases he
        exact ha
      | k + 1, he => simp [kS_o] at he⟩
    exact ⟨3000, _, g1, r.2, h1, g2.2.2⟩
theorem jnl_big (k : Nat) : ∃ B : Int, k < jnl B.natAbs := ⟨((jB ^ k : Nat) : Int), by
  rw [Int.natAbs_natCast]
  exact jnl_lt.mpr (by rw [Nat.div_self (jB_pow _)]; decide)⟩
theorem kS_cC {h hK : mj_H} {tm : Int} {H : Nat → Nat → Int} (o : jO cK cL cR h 563 tm h) (hk : kS_h hK = true) (he : ∀ (k : Nat) (e : mj_E), hK[k]? = some e → h[k + 1]? = some (mj_rE (fun k => k + 1) e)) : cC riN 0 H h := by
  unfold kS_h at hk
  simp only [Bool.and_eq_true, List.all_eq_true, List.mem_range] at hk
  obtain ⟨⟨⟨⟨⟨⟨⟨k1, k2⟩, k3⟩, k4⟩, k5⟩, k6⟩, k7⟩, k8⟩ := hk
  have up : ∀ {x i : Nat} {z : Int}, 1 ≤ x → kS_c hK (x - 1) i z = true → xOf h x i = z := fun {x i z} hx c => by
    have := kS_x he c
    rwa [show x - 1 + 1 = x by omega] at this
  have b1 : ∀ x, x ∈ bydl → 1 ≤ x := fun x hx => by
    have k18 := bydl_k hx
    rcases Nat.eq_zero_or_pos x with c | c
    · subst c
      exact absurd k18 (by rw [ck0.1]; decide)
    · exact c
  obtain ⟨B, hB⟩ := jnl_big 1500
  have m := sM_jM o hB (fun x hx => ⟨up (b1 x hx) (k1 x hx).1, up (b1 x hx) (k1 x hx).2⟩)
  have s : cS h 563 riN 0 H h := by
    refine ⟨_, _, m, fun x hx => if_pos hx, fun p kp => ?_, 0, by decide, ?_, ?_, ⟨fun r hr j hj => ?_, ?_, fun k hk => ?_⟩, fun k hk => absurd hk (Nat.not_lt_zero k), ⟨?_, ?_⟩⟩
    · have h1 : (!(decide (cK p = 13)) || decide (p ∈ pls)) = true := jall pls_1 (cK_in (a := p) (by omega))
      rw [kp] at h1
      have hp : p ∈ pls := of_decide_eq_true h1
      have hp1 : 1 ≤ p := by
        rcases Nat.eq_zero_or_pos p with c | c
        · subst c
          exact absurd kp (by rw [ck0.1]; decide)
        · exact c
      rw [up hp1 (k2 p hp)]
      omega
    · exact up (x := 1) (by decide) k4
    · exact up (x := 1) (by decide) k3
    · have := up (x := 2 + 2 + r) (by omega) (i := j) (z := riN (r * 13 + j)) (by rw [show 2 + 2 + r - 1 = 3 + r by omega]; exact k8 r hr j hj)
      exact this
    · exact up (x := 2) (by decide) k5
    · have h1 : riN 78 = 0 := rfl
      exfalso
      omega
    · rw [up (x := 15) (by decide) k6]
      omega
    · rw [up (x := 17) (by decide) k7]
      omega
  exact s.cC

theorem rx_init {D : Nat} {H : Nat → Nat → Int} : mj_Ok (D + 2) 174 [.ref 0] [.inr (10, mj_new 10)] (fun r => ∃ h', r = (.inl none, h') ∧ jIx riN 0 H 0 (-1) (fun _ => 0) h') := by
  refine mj_Ok.of (M := mj_m174) rfl rfl rfl ?_
  refine mj_T.pl rfl rfl rfl rfl ?_
  refine mj_T.prim rfl rfl rfl ?_
  iterate 31 refine mj_T.pl rfl rfl rfl rfl ?_
  iterate 4 refine mj_T.pl rfl rfl rfl rfl ?_
  refine mj_T.eq (st2 := [.long (jl (-2)), .int (jn 0), .ref 1]) ?_ rfl rfl rfl rfl
  refine mj_T.lstj (fun _ => 0) 0 (-2) rfl rfl ⟨by decide, by decide⟩ ⟨by decide, by decide⟩ ?_
  iterate 4 refine mj_T.pl rfl rfl rfl rfl ?_
  refine mj_T.eq (st2 := [.long (jl (1)), .int (jn 2), .ref 1]) ?_ rfl rfl rfl rfl
  refine mj_T.lstj (jvu (fun _ => 0) 0 (-2)) 2 (1) rfl rfl ⟨by decide, by decide⟩ ⟨by decide, by decide⟩ ?_
  iterate 4 refine mj_T.pl rfl rfl rfl rfl ?_
  refine mj_T.eq (st2 := [.long (jl (-1)), .int (jn 14), .ref 1]) ?_ rfl rfl rfl rfl
  refine mj_T.lstj (jvu (jvu (fun _ => 0) 0 (-2)) 2 (1)) 14 (-1) rfl rfl ⟨by decide, by decide⟩ ⟨by decide, by decide⟩ ?_
  iterate 4 refine mj_T.pl rfl rfl rfl rfl ?_
  refine mj_T.eq (st2 := [.long (jl (1)), .int (jn 16), .ref 1]) ?_ rfl rfl rfl rfl
  refine mj_T.lstj (jvu (jvu (jvu (fun _ => 0) 0 (-2)) 2 (1)) 14 (-1)) 16 (1) rfl rfl ⟨by decide, by decide⟩ ⟨by decide, by decide⟩ ?_
  iterate 4 refine mj_T.pl rfl rfl rfl rfl ?_
  refine mj_T.eq (st2 := [.long (jl (1)), .int (jn 26), .ref 1]) ?_ rfl rfl rfl rfl
  refine mj_T.lstj (jvu (jvu (jvu (jvu (fun _ => 0) 0 (-2)) 2 (1)) 14 (-1)) 16 (1)) 26 (1) rfl rfl ⟨by decide, by decide⟩ ⟨by decide, by decide⟩ ?_
  iterate 4 refine mj_T.pl rfl rfl rfl rfl ?_
  refine mj_T.eq (st2 := [.long (jl (-5)), .int (jn 27), .ref 1]) ?_ rfl rfl rfl rfl
  refine mj_T.lstj (jvu (jvu (jvu (jvu (jvu (fun _ => 0) 0 (-2)) 2 (1)) 14 (-1)) 16 (1)) 26 (1)) 27 (-5) rfl rfl ⟨by decide, by decide⟩ ⟨by decide, by decide⟩ ?_
  iterate 4 refine mj_T.pl rfl rfl rfl rfl ?_
  refine mj_T.eq (st2 := [.long (jl (6)), .int (jn 28), .ref 1]) ?_ rfl rfl rfl rfl
  refine mj_T.lstj (jvu (jvu (jvu (jvu (jvu (jvu (fun _ => 0) 0 (-2)) 2 (1)) 14 (-1)) 16 (1)) 26 (1)) 27 (-5)) 28 (6) rfl rfl ⟨by decide, by decide⟩ ⟨by decide, by decide⟩ ?_
  have hs : ∀ L : mj_H, L = rH riS riN (fun _ => 0) (fun _ => 0) (fun _ => 0) → rS riS riN (fun _ => 0) (fun _ => 0) (fun _ => 0) (fun _ => 0) L := fun L hL => ⟨fun _ => jn 0, fun _ => .int (jn 0), fun _ => .int (jn 0), riV, hL⟩
  refine mj_T.eq (h2 := rH riS riN (fun _ => 0) (fun _ => 0) (fun _ => 0)) ?_ rfl rfl rfl rfl
  have hs0 := hs _ rfl
  generalize rH riS riN (fun _ => 0) (fun _ => 0) (fun _ => 0) = h at hs0
  iterate 3 refine mj_T.pl rfl rfl rfl rfl ?_
  refine mj_T.call (ins := .invokevirtual 45) rfl rfl (Nat.le_of_ble_eq_true rfl) (Nat.le_of_ble_eq_true rfl) (by simp [mj_recv, rS_f hs0]) rfl (jS_sets (D := D) (rG riS riN (fun _ => 0) (fun _ => 0) (fun _ => 0)) (s := 650) (v := 0) (by decide) ⟨by decide, by decide⟩ hs0) (fun v' h1 hq' => ?_) (fun i h' hq' => by obtain ⟨_, _, h⟩ := hq'; cases h)
  obtain ⟨_, hs1, hq'⟩ := hq'
  cases hq'
  iterate 3 refine mj_T.pl rfl rfl rfl rfl ?_
  refine mj_T.call (ins := .invokevirtual 45) rfl rfl (Nat.le_of_ble_eq_true rfl) (Nat.le_of_ble_eq_true rfl) (by simp [mj_recv, jS_a (rG riS riN (fun _ => 0) (fun _ => 0) (fun _ => 0)) hs1]) rfl (jS_sets (D := D) (rG riS riN (fun _ => 0) (fun _ => 0) (fun _ => 0)) (s := 651) (v := 1) (by decide) ⟨by decide, by decide⟩ hs1) (fun v' h2 hq' => ?_) (fun i h' hq' => by obtain ⟨_, _, h⟩ := hq'; cases h)
  obtain ⟨_, hs2, hq'⟩ := hq'
  cases hq'
  exact mj_T.ret rfl rfl rfl ⟨h2, rfl, ⟨_, _, _, _, _, hs2, riK, fun _ _ => rfl, rfl, fun k hk => absurd hk (Nat.not_lt_zero k)⟩⟩
