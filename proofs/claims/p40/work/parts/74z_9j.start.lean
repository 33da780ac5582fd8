/-! The class behind its constructor. -/
/-- what a cell holds at a place, as a number -/
def xOf (h : mj_H) (a i : Nat) : Int := match h[a]? with
  | some (.inl (_, _, f)) => (match f i with
    | .int x => x.toInt
    | .long x => x.toInt
    | _ => 0)
  | some (.inr (_, fs)) => (match fs[i]? with
    | some (.int x) => x.toInt
    | some (.long x) => x.toInt
    | some (.ref r) => (r : Int)
    | _ => 0)
  | none => 0
def tmr (k a i : Nat) : Nat := match k with
  | 10 => [a + 1, a + 8, a + 9].getD i 0
  | 11 => [20, 50, 80, 110, 164, 166, 168, 170].getD i 0
  | 13 => [a + 3, a + 1].getD i 0
  | 14 => [19, 0, 0, 0, 0, 456, 466, 476].getD i 0
  | 15 => [19, 172, 0, 0, 0, 0, 445, 0, 447, 449, 451, 453].getD i 0
  | 16 => [19, 173, 0, 174, 176, 178].getD i 0
  | 19 => [2, 12, 0, 0, 13, 15, 17, 19, 172, 444, 455, 477, 479, 481, 482].getD i 0
  | _ => [a + 1].getD i 0
theorem tmr_1 : ((List.range 563).all (fun a => (List.range (jfs (cK a)).length).all fun i => match (jfs (cK a))[i]? with | some c => decide (c < 100) || decide (cR a i = tmr (cK a) a i) | none => true)) = true := by decide +kernel
theorem tmg_1 : ((List.range 563).all (fun a => !(decide (4 ≤ cK a) && decide (cK a ≤ 7)) || ((List.range (cL a)).all fun i => decide (cR a i = jMg (cK a) a i)))) = true := by decide +kernel
theorem tmk_1 : ((List.range 563).all (fun a => decide (cK a ≤ 7) || decide (cK a = 10) || decide (cK a = 11) || decide (cK a = 12) || decide (cK a = 13) || decide (cK a = 14) || decide (cK a = 15) || decide (cK a = 16) || decide (cK a = 17) || decide (cK a = 18) || decide (cK a = 19) || decide (cK a = 27))) = true := by decide +kernel
theorem tml_1 : ((List.range 563).all (fun a => !(decide (cK a = 2)) || decide (cL a = 13))) = true := by decide +kernel
theorem tmw_1 : ((List.range 563).all (fun a => !(decide (cK a = 18) || decide (cK a = 12)) || decide (cK (a + 1) = 1))) = true := by decide +kernel
theorem tmr_of {a i c k : Nat} (ka : cK a = k) (hk : k ≠ 0) (hc : (jfs k)[i]? = some c) (h1 : 100 ≤ c) : cR a i = tmr k a i := by
  subst ka
  have h2 := List.all_eq_true.mp (jall tmr_1 (cK_in hk)) i (List.mem_range.mpr (List.getElem?_eq_some_iff.mp hc).1)
  rw [hc] at h2
  have h3 : (decide (c < 100) || decide (cR a i = tmr (cK a) a i)) = true := h2
  rw [Bool.or_eq_true, decide_eq_true_eq, decide_eq_true_eq] at h3
  rcases h3 with h3 | h3
  · omega
  · exact h3
section SMF
variable {h : mj_H} {a i c k cc : Nat} {fs : List Value} {v : Value} {tm : Int}
theorem xOf_i {w : Int32} (h1 : h[a]? = some (.inr (cc, fs))) (h2 : fs[i]? = some (.int w)) : xOf h a i = w.toInt := by
  simp only [xOf, h1, h2]
theorem xOf_l {w : Int64} (h1 : h[a]? = some (.inr (cc, fs))) (h2 : fs[i]? = some (.long w)) : xOf h a i = w.toInt := by
  simp only [xOf, h1, h2]
theorem xOf_r {r : Nat} (h1 : h[a]? = some (.inr (cc, fs))) (h2 : fs[i]? = some (.ref r)) : xOf h a i = (r : Int) := by
  simp only [xOf, h1, h2]
theorem xOf_ai {t n : Nat} {f : Nat → Value} {w : Int32} (h1 : h[a]? = some (.inl (t, n, f))) (h2 : f i = .int w) : xOf h a i = w.toInt := by
  simp only [xOf, h1, h2]
theorem xOf_al {t n : Nat} {f : Nat → Value} {w : Int64} (h1 : h[a]? = some (.inl (t, n, f))) (h2 : f i = .long w) : xOf h a i = w.toInt := by
  simp only [xOf, h1, h2]
theorem lsc {n : Nat} {fs : List Value} (q : fs.length = n + 1) : ∃ (v : Value) (t : List Value), fs = v :: t ∧ t.length = n := by
  cases fs with
  | nil => cases q
  | cons v t => exact ⟨v, t, rfl, Nat.succ.inj q⟩
theorem lsz {fs : List Value} (q : fs.length = 0) : fs = [] := by
  cases fs with
  | nil => rfl
  | cons v t => cases q
def sMf (tm : Int) (k a : Nat) (fs : List Value) : Prop := ∀ i c, (jfs k)[i]? = some c → ∃ v, fs[i]? = some v ∧ jfv cK cR tm c a i v
theorem sM_r (ka : cK a = k) (hk : k ≠ 0) (hf : sMf tm k a fs) (hc : (jfs k)[i]? = some c) (h1 : 100 ≤ c) (hv : fs[i]? = some v) : v = .ref (tmr k a i) := by
  obtain ⟨v2, e, q⟩ := hf i c hc
  rw [hv] at e
  cases e
  unfold jfv at q
  rw [if_pos h1] at q
  rw [q, tmr_of ka hk hc h1]
theorem sM_n (hf : sMf tm k a fs) (hc : (jfs k)[i]? = some c) (h1 : c < 100) (h2 : c ≠ 1) (h3 : c ≠ 4) (hv : fs[i]? = some v) : ∃ x : Int, jlo tm c ≤ x ∧ x ≤ jhi tm c ∧ v = .int (jn x) := by
  obtain ⟨v2, e, q⟩ := hf i c hc
  rw [hv] at e
  cases e
  unfold jfv at q
  rw [if_neg (by omega), if_neg h2, if_neg h3] at q
  exact q
theorem sM_i (hh : h[a]? = some (.inr (cc, fs))) (hf : sMf tm k a fs) (hc : (jfs k)[i]? = some c) (h1 : c < 100) (h2 : c ≠ 1) (h3 : c ≠ 4) (hv : fs[i]? = some v) : v = .int (jn (xOf h a i)) := by
  obtain ⟨x, _, _, rfl⟩ := sM_n hf hc h1 h2 h3 hv
  rw [xOf_i hh hv, jn_of]
theorem sM_l (hh : h[a]? = some (.inr (cc, fs))) (hf : sMf tm k a fs) (hc : (jfs k)[i]? = some 1) (hv : fs[i]? = some v) : v = .long (jl (xOf h a i)) := by
  obtain ⟨v2, e, q⟩ := hf i 1 hc
  rw [hv] at e
  cases e
  unfold jfv at q
  rw [if_neg (by decide), if_pos rfl] at q
  obtain ⟨x, _, rfl⟩ := q
  rw [xOf_l hh hv, jl_of]
theorem sM_4 (hh : h[a]? = some (.inr (cc, fs))) (hf : sMf tm k a fs) (hc : (jfs k)[i]? = some 4) (hv : fs[i]? = some v) : v = .ref (xOf h a i).toNat := by
  obtain ⟨v2, e, q⟩ := hf i 4 hc
  rw [hv] at e
  cases e
  unfold jfv at q
  rw [if_neg (by decide), if_neg (by decide), if_pos rfl] at q
  obtain ⟨b, _, rfl⟩ := q
  rw [xOf_r hh hv, Int.toNat_natCast]
theorem sMo_10 (ka : cK a = 10) (hh : h[a]? = some (.inr (cc, fs))) (hl : fs.length = 4) (hf : sMf tm 10 a fs) : fs = jMf (xOf h) 10 a := by
  obtain ⟨v0, u0, rfl, l0⟩ := lsc (n := 3) hl
  obtain ⟨v1, u1, rfl, l1⟩ := lsc (n := 2) l0
  obtain ⟨v2, u2, rfl, l2⟩ := lsc (n := 1) l1
  obtain ⟨v3, u3, rfl, l3⟩ := lsc (n := 0) l2
  obtain rfl := lsz l3
  have e0 := sM_r ka (by decide) hf (i := 0) (c := 106) rfl (by decide) rfl
  have e1 := sM_r ka (by decide) hf (i := 1) (c := 101) rfl (by decide) rfl
  have e2 := sM_r ka (by decide) hf (i := 2) (c := 101) rfl (by decide) rfl
  have e3 := sM_i hh hf (i := 3) (c := 9) rfl (by decide) (by decide) (by decide) rfl
  rw [e0, e1, e2, e3]
  first
  | rfl
  | done
theorem sMo_11 (ka : cK a = 11) (hh : h[a]? = some (.inr (cc, fs))) (hl : fs.length = 8) (hf : sMf tm 11 a fs) : fs = jMf (xOf h) 11 a := by
  obtain ⟨v0, u0, rfl, l0⟩ := lsc (n := 7) hl
  obtain ⟨v1, u1, rfl, l1⟩ := lsc (n := 6) l0
  obtain ⟨v2, u2, rfl, l2⟩ := lsc (n := 5) l1
  obtain ⟨v3, u3, rfl, l3⟩ := lsc (n := 4) l2
  obtain ⟨v4, u4, rfl, l4⟩ := lsc (n := 3) l3
  obtain ⟨v5, u5, rfl, l5⟩ := lsc (n := 2) l4
  obtain ⟨v6, u6, rfl, l6⟩ := lsc (n := 1) l5
  obtain ⟨v7, u7, rfl, l7⟩ := lsc (n := 0) l6
  obtain rfl := lsz l7
  have e0 := sM_r ka (by decide) hf (i := 0) (c := 113) rfl (by decide) rfl
  have e1 := sM_r ka (by decide) hf (i := 1) (c := 113) rfl (by decide) rfl
  have e2 := sM_r ka (by decide) hf (i := 2) (c := 113) rfl (by decide) rfl
  have e3 := sM_r ka (by decide) hf (i := 3) (c := 113) rfl (by decide) rfl
  have e4 := sM_r ka (by decide) hf (i := 4) (c := 118) rfl (by decide) rfl
  have e5 := sM_r ka (by decide) hf (i := 5) (c := 118) rfl (by decide) rfl
  have e6 := sM_r ka (by decide) hf (i := 6) (c := 118) rfl (by decide) rfl
  have e7 := sM_r ka (by decide) hf (i := 7) (c := 112) rfl (by decide) rfl
  rw [e0, e1, e2, e3, e4, e5, e6, e7]
  first
  | rfl
  | done
theorem sMo_13 (ka : cK a = 13) (hh : h[a]? = some (.inr (cc, fs))) (hl : fs.length = 3) (hf : sMf tm 13 a fs) : fs = jMf (xOf h) 13 a := by
  obtain ⟨v0, u0, rfl, l0⟩ := lsc (n := 2) hl
  obtain ⟨v1, u1, rfl, l1⟩ := lsc (n := 1) l0
  obtain ⟨v2, u2, rfl, l2⟩ := lsc (n := 0) l1
  obtain rfl := lsz l2
  have e0 := sM_r ka (by decide) hf (i := 0) (c := 104) rfl (by decide) rfl
  have e1 := sM_r ka (by decide) hf (i := 1) (c := 118) rfl (by decide) rfl
  have e2 := sM_i hh hf (i := 2) (c := 6) rfl (by decide) (by decide) (by decide) rfl
  rw [e0, e1, e2]
  first
  | rfl
  | done
theorem sMo_14 (ka : cK a = 14) (hh : h[a]? = some (.inr (cc, fs))) (hl : fs.length = 8) (hf : sMf tm 14 a fs) : fs = jMf (xOf h) 14 a := by
  obtain ⟨v0, u0, rfl, l0⟩ := lsc (n := 7) hl
  obtain ⟨v1, u1, rfl, l1⟩ := lsc (n := 6) l0
  obtain ⟨v2, u2, rfl, l2⟩ := lsc (n := 5) l1
  obtain ⟨v3, u3, rfl, l3⟩ := lsc (n := 4) l2
  obtain ⟨v4, u4, rfl, l4⟩ := lsc (n := 3) l3
  obtain ⟨v5, u5, rfl, l5⟩ := lsc (n := 2) l4
  obtain ⟨v6, u6, rfl, l6⟩ := lsc (n := 1) l5
  obtain ⟨v7, u7, rfl, l7⟩ := lsc (n := 0) l6
  obtain rfl := lsz l7
  have e0 := sM_r ka (by decide) hf (i := 0) (c := 111) rfl (by decide) rfl
  have e1 := sM_4 hh hf (i := 1) rfl rfl
  have e2 := sM_i hh hf (i := 2) (c := 0) rfl (by decide) (by decide) (by decide) rfl
  have e3 := sM_i hh hf (i := 3) (c := 0) rfl (by decide) (by decide) (by decide) rfl
  have e4 := sM_i hh hf (i := 4) (c := 2) rfl (by decide) (by decide) (by decide) rfl
  have e5 := sM_r ka (by decide) hf (i := 5) (c := 106) rfl (by decide) rfl
  have e6 := sM_r ka (by decide) hf (i := 6) (c := 106) rfl (by decide) rfl
  have e7 := sM_r ka (by decide) hf (i := 7) (c := 102) rfl (by decide) rfl
  rw [e0, e1, e2, e3, e4, e5, e6, e7]
  first
  | rfl
  | done
theorem sMo_15 (ka : cK a = 15) (hh : h[a]? = some (.inr (cc, fs))) (hl : fs.length = 12) (hf : sMf tm 15 a fs) : fs = jMf (xOf h) 15 a := by
  obtain ⟨v0, u0, rfl, l0⟩ := lsc (n := 11) hl
  obtain ⟨v1, u1, rfl, l1⟩ := lsc (n := 10) l0
  obtain ⟨v2, u2, rfl, l2⟩ := lsc (n := 9) l1
  obtain ⟨v3, u3, rfl, l3⟩ := lsc (n := 8) l2
  obtain ⟨v4, u4, rfl, l4⟩ := lsc (n := 7) l3
  obtain ⟨v5, u5, rfl, l5⟩ := lsc (n := 6) l4
  obtain ⟨v6, u6, rfl, l6⟩ := lsc (n := 5) l5
  obtain ⟨v7, u7, rfl, l7⟩ := lsc (n := 4) l6
  obtain ⟨v8, u8, rfl, l8⟩ := lsc (n := 3) l7
  obtain ⟨v9, u9, rfl, l9⟩ := lsc (n := 2) l8
  obtain ⟨v10, u10, rfl, l10⟩ := lsc (n := 1) l9
  obtain ⟨v11, u11, rfl, l11⟩ := lsc (n := 0) l10
  obtain rfl := lsz l11
  have e0 := sM_r ka (by decide) hf (i := 0) (c := 111) rfl (by decide) rfl
  have e1 := sM_r ka (by decide) hf (i := 1) (c := 116) rfl (by decide) rfl
  have e2 := sM_i hh hf (i := 2) (c := 2) rfl (by decide) (by decide) (by decide) rfl
  have e3 := sM_i hh hf (i := 3) (c := 0) rfl (by decide) (by decide) (by decide) rfl
  have e4 := sM_i hh hf (i := 4) (c := 0) rfl (by decide) (by decide) (by decide) rfl
  have e5 := sM_l hh hf (i := 5) rfl rfl
  have e6 := sM_r ka (by decide) hf (i := 6) (c := 118) rfl (by decide) rfl
  have e7 := sM_i hh hf (i := 7) (c := 2) rfl (by decide) (by decide) (by decide) rfl
  have e8 := sM_r ka (by decide) hf (i := 8) (c := 118) rfl (by decide) rfl
  have e9 := sM_r ka (by decide) hf (i := 9) (c := 118) rfl (by decide) rfl
  have e10 := sM_r ka (by decide) hf (i := 10) (c := 118) rfl (by decide) rfl
  have e11 := sM_r ka (by decide) hf (i := 11) (c := 118) rfl (by decide) rfl
  rw [e0, e1, e2, e3, e4, e5, e6, e7, e8, e9, e10, e11]
  first
  | rfl
  | done
theorem sMo_16 (ka : cK a = 16) (hh : h[a]? = some (.inr (cc, fs))) (hl : fs.length = 6) (hf : sMf tm 16 a fs) : fs = jMf (xOf h) 16 a := by
  obtain ⟨v0, u0, rfl, l0⟩ := lsc (n := 5) hl
  obtain ⟨v1, u1, rfl, l1⟩ := lsc (n := 4) l0
  obtain ⟨v2, u2, rfl, l2⟩ := lsc (n := 3) l1
  obtain ⟨v3, u3, rfl, l3⟩ := lsc (n := 2) l2
  obtain ⟨v4, u4, rfl, l4⟩ := lsc (n := 1) l3
  obtain ⟨v5, u5, rfl, l5⟩ := lsc (n := 0) l4
  obtain rfl := lsz l5
  have e0 := sM_r ka (by decide) hf (i := 0) (c := 111) rfl (by decide) rfl
  have e1 := sM_r ka (by decide) hf (i := 1) (c := 105) rfl (by decide) rfl
  have e2 := sM_i hh hf (i := 2) (c := 0) rfl (by decide) (by decide) (by decide) rfl
  have e3 := sM_r ka (by decide) hf (i := 3) (c := 118) rfl (by decide) rfl
  have e4 := sM_r ka (by decide) hf (i := 4) (c := 118) rfl (by decide) rfl
  have e5 := sM_r ka (by decide) hf (i := 5) (c := 118) rfl (by decide) rfl
  rw [e0, e1, e2, e3, e4, e5]
  first
  | rfl
  | done
theorem sMo_17 (ka : cK a = 17) (hh : h[a]? = some (.inr (cc, fs))) (hl : fs.length = 2) (hf : sMf tm 17 a fs) : fs = jMf (xOf h) 17 a := by
  obtain ⟨v0, u0, rfl, l0⟩ := lsc (n := 1) hl
  obtain ⟨v1, u1, rfl, l1⟩ := lsc (n := 0) l0
  obtain rfl := lsz l1
  have e0 := sM_r ka (by decide) hf (i := 0) (c := 103) rfl (by decide) rfl
  have e1 := sM_i hh hf (i := 1) (c := 5) rfl (by decide) (by decide) (by decide) rfl
  rw [e0, e1]
  first
  | rfl
  | done
theorem sMo_19 (ka : cK a = 19) (hh : h[a]? = some (.inr (cc, fs))) (hl : fs.length = 16) (hf : sMf tm 19 a fs) : fs = jMf (xOf h) 19 a := by
  obtain ⟨v0, u0, rfl, l0⟩ := lsc (n := 15) hl
  obtain ⟨v1, u1, rfl, l1⟩ := lsc (n := 14) l0
  obtain ⟨v2, u2, rfl, l2⟩ := lsc (n := 13) l1
  obtain ⟨v3, u3, rfl, l3⟩ := lsc (n := 12) l2
  obtain ⟨v4, u4, rfl, l4⟩ := lsc (n := 11) l3
  obtain ⟨v5, u5, rfl, l5⟩ := lsc (n := 10) l4
  obtain ⟨v6, u6, rfl, l6⟩ := lsc (n := 9) l5
  obtain ⟨v7, u7, rfl, l7⟩ := lsc (n := 8) l6
  obtain ⟨v8, u8, rfl, l8⟩ := lsc (n := 7) l7
  obtain ⟨v9, u9, rfl, l9⟩ := lsc (n := 6) l8
  obtain ⟨v10, u10, rfl, l10⟩ := lsc (n := 5) l9
  obtain ⟨v11, u11, rfl, l11⟩ := lsc (n := 4) l10
  obtain ⟨v12, u12, rfl, l12⟩ := lsc (n := 3) l11
  obtain ⟨v13, u13, rfl, l13⟩ := lsc (n := 2) l12
  obtain ⟨v14, u14, rfl, l14⟩ := lsc (n := 1) l13
  obtain ⟨v15, u15, rfl, l15⟩ := lsc (n := 0) l14
  obtain rfl := lsz l15
  have e0 := sM_r ka (by decide) hf (i := 0) (c := 110) rfl (by decide) rfl
  have e1 := sM_r ka (by decide) hf (i := 1) (c := 107) rfl (by decide) rfl
  have e2 := sM_i hh hf (i := 2) (c := 0) rfl (by decide) (by decide) (by decide) rfl
  have e3 := sM_i hh hf (i := 3) (c := 0) rfl (by decide) (by decide) (by decide) rfl
  have e4 := sM_r ka (by decide) hf (i := 4) (c := 127) rfl (by decide) rfl
  have e5 := sM_r ka (by decide) hf (i := 5) (c := 117) rfl (by decide) rfl
  have e6 := sM_r ka (by decide) hf (i := 6) (c := 117) rfl (by decide) rfl
  have e7 := sM_r ka (by decide) hf (i := 7) (c := 111) rfl (by decide) rfl
  have e8 := sM_r ka (by decide) hf (i := 8) (c := 116) rfl (by decide) rfl
  have e9 := sM_r ka (by decide) hf (i := 9) (c := 115) rfl (by decide) rfl
  have e10 := sM_r ka (by decide) hf (i := 10) (c := 114) rfl (by decide) rfl
  have e11 := sM_r ka (by decide) hf (i := 11) (c := 118) rfl (by decide) rfl
  have e12 := sM_r ka (by decide) hf (i := 12) (c := 118) rfl (by decide) rfl
  have e13 := sM_r ka (by decide) hf (i := 13) (c := 102) rfl (by decide) rfl
  have e14 := sM_r ka (by decide) hf (i := 14) (c := 102) rfl (by decide) rfl
  have e15 := sM_i hh hf (i := 15) (c := 0) rfl (by decide) (by decide) (by decide) rfl
  rw [e0, e1, e2, e3, e4, e5, e6, e7, e8, e9, e10, e11, e12, e13, e14, e15]
  first
  | rfl
  | done
theorem sMo_27 (ka : cK a = 27) (hh : h[a]? = some (.inr (cc, fs))) (hl : fs.length = 2) (hf : sMf tm 27 a fs) : fs = jMf (xOf h) 27 a := by
  obtain ⟨v0, u0, rfl, l0⟩ := lsc (n := 1) hl
  obtain ⟨v1, u1, rfl, l1⟩ := lsc (n := 0) l0
  obtain rfl := lsz l1
  have e0 := sM_r ka (by decide) hf (i := 0) (c := 103) rfl (by decide) rfl
  have e1 := sM_i hh hf (i := 1) (c := 7) rfl (by decide) (by decide) (by decide) rfl
  rw [e0, e1]
  first
  | rfl
  | done
theorem sMo_18 (ka : cK a = 18) (hh : h[a]? = some (.inr (cc, fs))) (hl : fs.length = 3) (hf : sMf tm 18 a fs) : ∃ x : Int, 0 ≤ x ∧ x ≤ 1000 ∧ fs = [.ref (a + 1), .int (jn x), .int (jn (xOf h a 2))] ∧ xOf h a 1 = x := by
  obtain ⟨v0, u0, rfl, l0⟩ := lsc (n := 2) hl
  obtain ⟨v1, u1, rfl, l1⟩ := lsc (n := 1) l0
  obtain ⟨v2, u2, rfl, l2⟩ := lsc (n := 0) l1
  obtain rfl := lsz l2
  have e0 := sM_r ka (by decide) hf (i := 0) (c := 101) rfl (by decide) rfl
  obtain ⟨x, x0, x1, e1⟩ := sM_n hf (i := 1) (c := 10) rfl (by decide) (by decide) (by decide) rfl
  have e2 := sM_i hh hf (i := 2) (c := 0) rfl (by decide) (by decide) (by decide) rfl
  have x0 : 0 ≤ x := x0
  have x1 : x ≤ 1000 := x1
  have e3 : xOf h a 1 = (jn x).toInt := xOf_i hh (congrArg some e1)
  refine ⟨x, x0, x1, ?_, e3.trans (jn_toInt ⟨by omega, by omega⟩)⟩
  rw [e0, e1, e2]
  first
  | rfl
  | done
theorem sMo_12 (ka : cK a = 12) (hh : h[a]? = some (.inr (cc, fs))) (hl : fs.length = 4) (hf : sMf tm 12 a fs) : ∃ x : Int, 0 ≤ x ∧ x ≤ 60 ∧ fs = [.ref (a + 1), .int (jn x), .int (jn (xOf h a 2)), .long (jl (xOf h a 3))] := by
  obtain ⟨v0, u0, rfl, l0⟩ := lsc (n := 3) hl
  obtain ⟨v1, u1, rfl, l1⟩ := lsc (n := 2) l0
  obtain ⟨v2, u2, rfl, l2⟩ := lsc (n := 1) l1
  obtain ⟨v3, u3, rfl, l3⟩ := lsc (n := 0) l2
  obtain rfl := lsz l3
  have e0 := sM_r ka (by decide) hf (i := 0) (c := 101) rfl (by decide) rfl
  obtain ⟨x, x0, x1, e1⟩ := sM_n hf (i := 1) (c := 8) rfl (by decide) (by decide) (by decide) rfl
  have e2 := sM_i hh hf (i := 2) (c := 0) rfl (by decide) (by decide) (by decide) rfl
  have e3 := sM_l hh hf (i := 3) rfl rfl
  refine ⟨x, x0, x1, ?_⟩
  rw [e0, e1, e2, e3]
  first
  | rfl
  | done
end SMF
section SMJ
variable {h g : mj_H} {n : Nat} {tm : Int}
theorem sM_ar (o : jO cK cL cR g n tm h) {a : Nat} (ka : cK a = 1 ∨ cK a = 3) : h[a]? = some (.inl (jak (cK a), cL a, fun j => .int (jn (xOf h a j)))) := by
  obtain ⟨e, h1, h2⟩ := o.2.2.2 a (by omega)
  unfold jCf at h2
  rw [if_pos (by omega)] at h2
  obtain ⟨f, rfl, hf⟩ := h2
  rw [h1]
  have : f = fun j => .int (jn (xOf h a j)) := funext fun j => by
    have hj := hf j
    rw [if_pos ka] at hj
    obtain ⟨x, _, e⟩ := hj
    rw [xOf_ai h1 e, jn_of, e]
  rw [← this]
theorem sM_al (o : jO cK cL cR g n tm h) {a : Nat} (ka : cK a = 2) : h[a]? = some (.inl (1, 13, fun j => .long (jl (xOf h a j)))) := by
  obtain ⟨e, h1, h2⟩ := o.2.2.2 a (by omega)
  have hL : cL a = 13 := by
    have h3 := jall tml_1 (cK_in (a := a) (by omega))
    have h3 : (!(decide (cK a = 2)) || decide (cL a = 13)) = true := h3
    rw [ka] at h3
    exact of_decide_eq_true h3
  unfold jCf at h2
  rw [if_pos (by omega)] at h2
  obtain ⟨f, rfl, hf⟩ := h2
  rw [h1, ka, hL]
  have : f = fun j => .long (jl (xOf h a j)) := funext fun j => by
    have hj := hf j
    rw [if_neg (by omega), if_pos ka] at hj
    obtain ⟨x, _, e⟩ := hj
    rw [xOf_al h1 e, jl_of, e]
  rw [← this]
  rfl
theorem sM_ob (o : jO cK cL cR g n tm h) {a : Nat} (ka : 7 < cK a) : ∃ fs : List Value, h[a]? = some (.inr (jkc (cK a), fs)) ∧ fs.length = (jfs (cK a)).length ∧ sMf tm (cK a) a fs := by
  obtain ⟨e, h1, h2⟩ := o.2.2.2 a (by omega)
  unfold jCf at h2
  rw [if_neg (by omega)] at h2
  obtain ⟨fs, rfl, hl, hf⟩ := h2
  exact ⟨fs, h1, hl, hf⟩
/-- what the typed rules tell of a heap is a memory; of a Wide no more than its kind, but where it holds 0 -/
theorem sM_jM (o : jO cK cL cR g n tm h) {B : Int} (hB : 1500 < jnl B.natAbs) (by1 : ∀ x, x ∈ bydl → xOf h x 1 = 0 ∧ xOf h x 2 = 0) : jM g n (fun a => if a ∈ bydl then 0 else B) (xOf h) h := by
  refine ⟨o.1, o.2.2.1, fun a => ?_⟩
  by_cases k0 : cK a = 0
  · unfold jMk
    rw [if_pos k0]
    trivial
  have ha := cK_in k0
  unfold jMk
  rw [if_neg k0]
  by_cases k18 : cK a = 18
  · rw [if_pos k18]
    obtain ⟨fs, h1, hl, hf⟩ := sM_ob o (a := a) (by omega)
    rw [k18] at h1 hl hf
    obtain ⟨x, x0, x1, e, ex⟩ := sMo_18 k18 h1 hl hf
    have k1 : cK (a + 1) = 1 := by
      have h3 : (!(decide (cK a = 18) || decide (cK a = 12)) || decide (cK (a + 1) = 1)) = true := jall tmw_1 ha
      rw [k18] at h3
      exact of_decide_eq_true h3
    have h2 := sM_ar o (a := a + 1) (Or.inl k1)
    rw [k1] at h2
    rw [e] at h1
    refine ⟨⟨fun j => jn (xOf h (a + 1) j), x.toNat, jn (xOf h a 2), by omega, by rw [show ((x.toNat : Nat) : Int) = x by omega]; exact h1, h2⟩, fun hv => ?_⟩
    have hv : jnl (if a ∈ bydl then (0 : Int) else B).natAbs ≤ 1500 := hv
    show wW h a (cL (a + 1)) (if a ∈ bydl then (0 : Int) else B)
    by_cases c : a ∈ bydl
    · rw [if_pos c]
      obtain ⟨y1, y2⟩ := by1 a c
      refine ⟨fun j => jn (xOf h (a + 1) j), ?_, h2, fun j hj => ?_, ?_⟩
      · rw [h1, y2, show x = 0 by omega]
        show _ = some (Sum.inr (8, [Value.ref (a + 1), Value.int (jn ((jnl 0 : Nat) : Int)), Value.int (jn (jsg 0))]))
        rw [jnl_zero]
        rfl
      · have hj : j < jnl 0 := hj
        rw [jnl_zero] at hj
        omega
      · show jnl 0 ≤ _
        rw [jnl_zero]
        exact Nat.zero_le _
    · rw [if_neg c] at hv
      omega
  rw [if_neg k18]
  by_cases k12 : cK a = 12
  · rw [if_pos k12]
    obtain ⟨fs, h1, hl, hf⟩ := sM_ob o (a := a) (by omega)
    rw [k12] at h1 hl hf
    obtain ⟨x, x0, x1, e⟩ := sMo_12 k12 h1 hl hf
    have k1 : cK (a + 1) = 1 := by
      have h3 : (!(decide (cK a = 18) || decide (cK a = 12)) || decide (cK (a + 1) = 1)) = true := jall tmw_1 ha
      rw [k12] at h3
      exact of_decide_eq_true h3
    have h2 := sM_ar o (a := a + 1) (Or.inl k1)
    rw [k1] at h2
    rw [e] at h1
    refine ⟨⟨fun j => jn (xOf h (a + 1) j), x.toNat, jn (xOf h a 2), jl (xOf h a 3), by omega, by rw [show ((x.toNat : Nat) : Int) = x by omega]; exact h1, h2⟩, fun hv => ?_⟩
    have hv : jnl (if a ∈ bydl then (0 : Int) else B).natAbs ≤ 1500 := hv
    rw [if_neg (fun c => by have := bydl_k c; omega)] at hv
    omega
  rw [if_neg k12]
  by_cases k1 : cK a = 1
  · rw [if_pos k1]
    refine Or.inr ?_
    have h2 := sM_ar o (a := a) (Or.inl k1)
    rw [k1] at h2
    exact h2
  rw [if_neg k1]
  by_cases k2 : cK a = 2
  · rw [if_pos k2]
    exact sM_al o k2
  rw [if_neg k2]
  by_cases k3 : cK a = 3
  · rw [if_pos k3]
    have h2 := sM_ar o (a := a) (Or.inr k3)
    rw [k3] at h2
    exact h2
  rw [if_neg k3]
  by_cases k7 : cK a ≤ 7
  · rw [if_pos k7]
    obtain ⟨e, h1, h2⟩ := o.2.2.2 a k0
    unfold jCf at h2
    rw [if_pos k7] at h2
    obtain ⟨f, rfl, hf⟩ := h2
    refine ⟨f, h1, fun i hi => ?_⟩
    have hj := hf i
    rw [if_neg (by omega), if_neg k2] at hj
    rw [hj hi]
    have h3 : (!(decide (4 ≤ cK a) && decide (cK a ≤ 7)) || ((List.range (cL a)).all fun i => decide (cR a i = jMg (cK a) a i))) = true := jall tmg_1 ha
    rw [decide_eq_true (show 4 ≤ cK a by omega), decide_eq_true k7] at h3
    have h4 := List.all_eq_true.mp (show ((List.range (cL a)).all fun i => decide (cR a i = jMg (cK a) a i)) = true from h3) i (List.mem_range.mpr hi)
    rw [of_decide_eq_true h4]
  rw [if_neg k7]
  obtain ⟨fs, h1, hl, hf⟩ := sM_ob o (a := a) (by omega)
  rw [h1]
  have h3 := jall tmk_1 ha
  simp only [Bool.or_eq_true, decide_eq_true_eq] at h3
  have h4 : cK a = 10 ∨ cK a = 11 ∨ cK a = 13 ∨ cK a = 14 ∨ cK a = 15 ∨ cK a = 16 ∨ cK a = 17 ∨ cK a = 19 ∨ cK a = 27 := by omega
  have h5 : fs = jMf (xOf h) (cK a) a := by
    rcases h4 with q | q | q | q | q | q | q | q | q
    · rw [q] at h1 hl hf ⊢
      exact sMo_10 q h1 hl hf
    · rw [q] at h1 hl hf ⊢
      exact sMo_11 q h1 hl hf
    · rw [q] at h1 hl hf ⊢
      exact sMo_13 q h1 hl hf
    · rw [q] at h1 hl hf ⊢
      exact sMo_14 q h1 hl hf
    · rw [q] at h1 hl hf ⊢
      exact sMo_15 q h1 hl hf
    · rw [q] at h1 hl hf ⊢
      exact sMo_16 q h1 hl hf
    · rw [q] at h1 hl hf ⊢
      exact sMo_17 q h1 hl hf
    · rw [q] at h1 hl hf ⊢
      exact sMo_19 q h1 hl hf
    · rw [q] at h1 hl hf ⊢
      exact sMo_27 q h1 hl hf
  rw [← h5]
end SMJ

