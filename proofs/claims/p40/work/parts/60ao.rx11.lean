/-! Of the reference and of numbers (as in p1, part 78v). -/
section JXC
variable {D : Nat} {hp : mj_H} {q0 q1 q2 q3 : Nat} {fs : List Value} {bg : Nat → Int32} {ov db : Nat → Value}
theorem jq_scales_o (G : jG hp q0 q1 q2 q3 fs) {n x fa : Nat} (hn : n < 1404) (hx : jnl x ≤ n) (hfa : 0 < fa) (hfa2 : fa ≤ 1000000000) (hf : ∀ j, j < n → ov j = .int (jn (jlb x j : Nat))) :
    mj_Ok (D + 1) 190 [.ref q2, .int (jn n), .int (jn fa)] (jZ hp q1 q2 q3 bg ov db) (fun r => ∃ ov' : Nat → Value, (∀ j, j ≤ n → ov' j = .int (jn (jlb (x * fa) j : Nat))) ∧ r = (.inl none, jZ hp q1 q2 q3 bg ov' db)) := by
  have E := jG_e G (.inl (0, 702, db))
  have c := jq_scales (D := D) (h := jZ hp q1 q2 q3 bg ov db) (p := q2) (N := 1404) (f := ov) (n := n) (x := x) (fa := fa) (by rw [jX_len, List.length_set]; exact E.2.2.2.2) (by omega) hn hx hfa hfa2 hf
  rw [jY_set E] at c
  refine c.to (fun r hr => ?_)
  obtain ⟨f', h1, h2⟩ := hr
  rw [jY_set E] at h2
  exact ⟨f', h1, h2⟩
theorem jq_scales_y (G : jG hp q0 q1 q2 q3 fs) {n x fa : Nat} (hn : n < 702) (hx : jnl x ≤ n) (hfa : 0 < fa) (hfa2 : fa ≤ 1000000000) (hf : ∀ j, j < n → db j = .int (jn (jlb x j : Nat))) :
    mj_Ok (D + 1) 190 [.ref q3, .int (jn n), .int (jn fa)] (jZ hp q1 q2 q3 bg ov db) (fun r => ∃ db' : Nat → Value, (∀ j, j ≤ n → db' j = .int (jn (jlb (x * fa) j : Nat))) ∧ r = (.inl none, jZ hp q1 q2 q3 bg ov db')) := by
  have c := jq_scales (D := D) (h := jZ hp q1 q2 q3 bg ov db) (p := q3) (N := 702) (f := db) (n := n) (x := x) (fa := fa) (by rw [jX_len, List.length_set, List.length_set]; exact G.2.2.2.2.2) (by omega) hn hx hfa hfa2 hf
  rw [jZ_set G] at c
  refine c.to (fun r hr => ?_)
  obtain ⟨f', h1, h2⟩ := hr
  rw [jZ_set G] at h2
  exact ⟨f', h1, h2⟩
/-- a piece of the great row comes into another row -/
theorem jX_cpo {h : mj_H} {b p N s n : Nat} {bg : Nat → Int32} {f : Nat → Value} (hb : h[b]? = some (.inl (0, 466830, fun j => .int (bg j)))) (hp : h[p]? = some (.inl (0, N, f))) (h1 : s + n ≤ 466830) (h2 : n ≤ N) : mj_prim 4 [.int (jn (n : Nat)), .int (jn 0), .ref p, .int (jn (s : Nat)), .ref b] h = some ([], h.set p (.inl (0, N, va_cpy (fun j => .int (bg j)) f s 0 n))) := by
  have hs : jr (s : Int) := ⟨by omega, by omega⟩
  have hn : jr (n : Int) := ⟨by omega, by omega⟩
  have z : jr 0 := ⟨by omega, by omega⟩
  have e1 : (jn (s : Nat)).toNatClampNeg = s := by rw [jn_nat (by omega) hs]; rfl
  have e2 : (jn 0).toNatClampNeg = 0 := by rw [jn_nat (by omega) z]; rfl
  have e3 : (jn (n : Nat)).toNatClampNeg = n := by rw [jn_nat (by omega) hn]; rfl
  have g : ∀ k : Int, 0 ≤ k → jr k → (0 : Int32) ≤ jn k := fun k h0 hk => by
    rw [show (0 : Int32) = jn 0 from rfl, jn_le z hk]; exact h0
  simp only [mj_prim, hb, hp, e1, e2, e3]
  rw [if_pos ⟨Nat.le_of_ble_eq_true rfl, trivial, Or.inl trivial, g _ (by omega) hs, g 0 (by omega) z, g _ (by omega) hn, h1, by omega, by simp [mj_cpok, mj_isint]⟩]
theorem jq_cut_loop (G : jG hp q0 q1 q2 q3 fs) {q r a b n m f X V : Nat} {bg0 : Nat → Int32} (hq : q < 665) (hn : 1 ≤ n) (hnm : n + m ≤ 700) (hV : jnl V = n) (hnorm : 1000000000 ≤ 2 * jlb V (n - 1)) (hdb : ∀ j, j < n → db j = .int (jn (jlb V j : Nat))) {Q : mj_R → Prop}
    (hend : ∀ (bg : Nat → Int32) (ov : Nat → Value), (∀ j, j ≤ n + m → ov j = .int (jn (jlb (X % V) j : Nat))) → (∀ j, j ≤ m → bg (q * 702 + 2 + j) = jn (jlb (X / V) j : Nat)) → (∀ p, (∀ j, j ≤ m → p ≠ q * 702 + 2 + j) → bg p = bg0 p) → mj_T (D + 1) mj_m191 167 [some (.ref q0), some (.int (jn q)), some (.int (jn r)), some (.int (jn a)), some (.int (jn b)), some (.int (jn n)), some (.int (jn m)), some (.int (jn f)), some (.int (jn (-1))), none, none, none, none] [] (jZ hp q1 q2 q3 bg ov db) Q) :
    ∀ (k : Nat) (bg : Nat → Int32) (ov : Nat → Value), k ≤ m + 1 → (∀ j, j ≤ n + m → ov j = .int (jn (jlb (jyk X V k) j : Nat))) → (∀ j, k ≤ j → j ≤ m → bg (q * 702 + 2 + j) = jn (jlb (X / V) j : Nat)) → (∀ p, (∀ j, j ≤ m → p ≠ q * 702 + 2 + j) → bg p = bg0 p) →
      mj_T (D + 1) mj_m191 133 [some (.ref q0), some (.int (jn q)), some (.int (jn r)), some (.int (jn a)), some (.int (jn b)), some (.int (jn n)), some (.int (jn m)), some (.int (jn f)), some (.int (jn ((k : Int) - 1))), none, none, none, none] [] (jZ hp q1 q2 q3 bg ov db) Q := by
  have hVB : V < jB ^ n := jnl_le_lt.mp (Nat.le_of_eq hV)
  have hV0 : 0 < V := Nat.pos_of_ne_zero (fun e => by rw [e, jnl_zero] at hV; omega)
  intro k
  induction k with
  | zero =>
    intro bg ov hk h1 h2 h3
    refine mj_T.pl rfl rfl rfl rfl ?_
    refine mj_T.if0 rfl ⟨by omega, by omega⟩ (fun hc => ?_) (fun hc => ?_)
    · refine hend bg ov (fun j hj => ?_) (fun j hj => h2 j (Nat.zero_le _) hj) h3
      rw [h1 j hj]
      simp [jyk, Nat.mod_one]
    · simp only [jc, decide_eq_false_iff_not] at hc; omega
  | succ k ih =>
    intro bg ov hk h1 h2 h3
    rw [show ((k + 1 : Nat) : Int) - 1 = (k : Int) by omega]
    have hUd := jyk_div X V k
    have hR := Nat.mod_lt (X / jB ^ (k + 1)) hV0
    have hUlt : jyk X V (k + 1) / jB ^ k < V * jB := by
      rw [hUd]
      have h1 : jlb X k < jB := jlb_lt X k
      refine Nat.lt_of_lt_of_le (Nat.add_lt_add_left h1 _) ?_
      rw [← Nat.succ_mul]
      exact Nat.mul_le_mul_right _ hR
    have hql : jlb (X / V) k = jyk X V (k + 1) / jB ^ k / V := by rw [hUd]; exact jcut_limb hV0
    have hrl : X / jB ^ k % V = jyk X V (k + 1) / jB ^ k % V := by rw [hUd]; exact jcut_rest hV0
    have hsh : ∀ j, jlb (jyk X V (k + 1)) (k + j) = jlb (jyk X V (k + 1) / jB ^ k) j := fun j => (jlb_shift _ _ _).symm
    have hq1 := jlb_lt (X / V) k
    refine mj_T.pl rfl rfl rfl rfl ?_
    refine mj_T.if0 rfl ⟨by omega, by omega⟩ (fun hc => ?_) (fun hc => ?_)
    · simp only [jc, decide_eq_true_eq] at hc; omega
    clear hc
    refine mj_T.pl rfl rfl rfl rfl ?_
    refine mj_T.gb (jE_c (jG_e G _) _) rfl ?_
    iterate 2 refine mj_T.pl rfl rfl rfl rfl ?_
    refine mj_T.imul (b := 702) rfl ?_
    refine mj_T.pl rfl rfl rfl rfl ?_
    refine mj_T.iadd (b := 2) rfl ?_
    refine mj_T.pl rfl rfl rfl rfl ?_
    refine mj_T.iadd rfl ?_
    rw [show (q : Int) * 702 + 2 + (k : Int) = ((q * 702 + 2 + k : Nat) : Int) by omega]
    iterate 3 refine mj_T.pl rfl rfl rfl rfl ?_
    refine mj_T.call (ins := .invokevirtual 98) rfl rfl (Nat.le_of_ble_eq_true rfl) (Nat.le_of_ble_eq_true rfl) (by simp [mj_recv, jX_a (jE_c (jG_e G _) _)]) rfl (jq_dl (D := D) G (k := k) (n := n) (U := jyk X V (k + 1) / jB ^ k) (V := V) (by omega) hn (by omega) hV hnorm hUlt (fun j hj => by rw [h1 (k + j) (by omega), hsh]) hdb) (fun v' h' hq' => ?_) (fun i h' hq' => by obtain ⟨_, _, _, h⟩ := hq'; cases h)
    obtain ⟨ov', k1, k2, h⟩ := hq'
    cases h
    rw [← hql]
    refine mj_T.xst (jE_c (jG_e G _) _) rfl ⟨by omega, by omega⟩ ⟨by omega, by omega⟩ ?_
    refine mj_T.iinc (a := k) rfl rfl ?_
    refine mj_T.pl rfl rfl rfl rfl ?_
    refine ih _ ov' (by omega) (fun j hj => ?_) (fun j hj hj2 => ?_) (fun p hp => ?_)
    · have hUV : (jyk X V (k + 1) / jB ^ k) % V < jB ^ n := Nat.lt_trans (Nat.mod_lt _ hV0) hVB
      rcases Nat.lt_or_ge j k with h | h
      · rw [k2 j (Or.inl h), h1 j hj, jyk_low (by omega), jyk_low h]
      · obtain ⟨i, rfl⟩ : ∃ i, j = k + i := ⟨j - k, by omega⟩
        rw [jyk_high, hrl]
        rcases Nat.lt_or_ge n i with h4 | h4
        · rw [k2 (k + i) (Or.inr (by omega)), h1 (k + i) hj, jlb_high (show jnl (jyk X V (k + 1) / jB ^ k % V) ≤ i by have := jnl_of hUV; omega)]
          rw [show k + i = k + 1 + (i - 1) by omega, jyk_high]
          rw [jlb_high (show jnl (X / jB ^ (k + 1) % V) ≤ i - 1 by have := jnl_of (Nat.lt_trans hR hVB); omega)]
        · exact k1 i h4
    · unfold upd
      by_cases e : j = k
      · subst e; exact if_pos rfl
      · rw [if_neg (by omega)]; exact h2 j (by omega) hj2
    · unfold upd
      rw [if_neg (fun e => hp k (by omega) (by omega))]
      exact h3 p hp
theorem jq_cut_rest (G : jG hp q0 q1 q2 q3 fs) {q r a b n m f R : Nat} {bg0 : Nat → Int32} (hr : r < 665) (hn : 1 ≤ n) (hn2 : n ≤ 700) (hf : 0 < f) (hf2 : f ≤ 1000000000) (hRn : jnl R ≤ n) (hov : ∀ j, j < n → ov j = .int (jn (jlb R j : Nat))) {Q : mj_R → Prop}
    (hend : ∀ (bg : Nat → Int32) (l8 l11 : Option Value), (∀ j, j < n → bg (r * 702 + 2 + j) = jn (jlb (R / f) j : Nat)) → (∀ p, (∀ j, j < n → p ≠ r * 702 + 2 + j) → bg p = bg0 p) → mj_T D mj_m191 265 [some (.ref q0), some (.int (jn q)), some (.int (jn r)), some (.int (jn a)), some (.int (jn b)), some (.int (jn n)), some (.int (jn m)), some (.int (jn f)), l8, none, some (.int (jn (-1))), l11, none] [] (jZ hp q1 q2 q3 bg ov db) Q) :
    ∀ (k : Nat) (bg : Nat → Int32) (l11 : Option Value), k ≤ n → (∀ j, k ≤ j → j < n → bg (r * 702 + 2 + j) = jn (jlb (R / f) j : Nat)) → (∀ p, (∀ j, j < n → p ≠ r * 702 + 2 + j) → bg p = bg0 p) →
      mj_T D mj_m191 207 [some (.ref q0), some (.int (jn q)), some (.int (jn r)), some (.int (jn a)), some (.int (jn b)), some (.int (jn n)), some (.int (jn m)), some (.int (jn f)), some (.long (jl (R / jB ^ k % f : Nat))), none, some (.int (jn ((k : Int) - 1))), l11, none] [] (jZ hp q1 q2 q3 bg ov db) Q := by
  intro k
  induction k with
  | zero =>
    intro bg l11 hk h1 h2
    refine mj_T.pl rfl rfl rfl rfl ?_
    refine mj_T.if0 rfl ⟨by omega, by omega⟩ (fun hc => ?_) (fun hc => ?_)
    · exact hend bg _ l11 (fun j hj => h1 j (Nat.zero_le _) hj) h2
    · simp only [jc, decide_eq_false_iff_not] at hc; omega
  | succ k ih =>
    intro bg l11 hk h1 h2
    rw [show ((k + 1 : Nat) : Int) - 1 = (k : Int) by omega]
    have x1 := jlb_lt R k
    have z1 := jlb_lt (R / f) k
    have hr0 := Nat.mod_lt (R / jB ^ (k + 1)) hf
    have hlim := jcut_limb (x := R) (f := f) (i := k) hf
    have hrest := jcut_rest (x := R) (f := f) (i := k) hf
    refine mj_T.pl rfl rfl rfl rfl ?_
    refine mj_T.if0 rfl ⟨by omega, by omega⟩ (fun hc => ?_) (fun hc => ?_)
    · simp only [jc, decide_eq_true_eq] at hc; omega
    clear hc
    generalize hW : R / jB ^ (k + 1) % f = W at *
    have hlim : jlb (R / f) k = (W * 1000000000 + jlb R k) / f := hlim
    have hrest : R / jB ^ k % f = (W * 1000000000 + jlb R k) % f := hrest
    iterate 2 refine mj_T.pl rfl rfl rfl rfl ?_
    refine mj_T.lmul (b := 1000000000) rfl ?_
    refine mj_T.pl rfl rfl rfl rfl ?_
    refine mj_T.gov (jG_e G _) rfl ?_
    refine mj_T.pl rfl rfl rfl rfl ?_
    refine mj_T.old (jG_e G _) rfl ⟨by omega, by omega⟩ ⟨by omega, by omega⟩ (hov k (by omega)) ?_
    refine mj_T.i2l rfl ⟨by omega, by omega⟩ ?_
    refine mj_T.ladd rfl ?_
    rw [show (W : Int) * 1000000000 + ((jlb R k : Nat) : Int) = ((W * 1000000000 + jlb R k : Nat) : Int) by rw [Int.natCast_add, Int.natCast_mul]; rfl]
    have hb2 : W * 1000000000 + jlb R k ≤ 1000000000000000000 := by omega
    iterate 2 refine mj_T.pl rfl rfl rfl rfl ?_
    refine mj_T.gb (jE_c (jG_e G _) _) rfl ?_
    iterate 2 refine mj_T.pl rfl rfl rfl rfl ?_
    refine mj_T.imul (b := 702) rfl ?_
    refine mj_T.pl rfl rfl rfl rfl ?_
    refine mj_T.iadd (b := 2) rfl ?_
    refine mj_T.pl rfl rfl rfl rfl ?_
    refine mj_T.iadd rfl ?_
    rw [show (r : Int) * 702 + 2 + (k : Int) = ((r * 702 + 2 + k : Nat) : Int) by omega]
    iterate 2 refine mj_T.pl rfl rfl rfl rfl ?_
    refine mj_T.i2l rfl ⟨by omega, by omega⟩ ?_
    refine mj_T.ldiv rfl ⟨by omega, by omega⟩ ⟨by omega, by omega⟩ (by omega) ?_
    rw [show ((W * 1000000000 + jlb R k : Nat) : Int).tdiv (f : Int) = ((jlb (R / f) k : Nat) : Int) by rw [hlim]; rfl]
    refine mj_T.l2i rfl ?_
    refine mj_T.xst (jE_c (jG_e G _) _) rfl ⟨by omega, by omega⟩ ⟨by omega, by omega⟩ ?_
    iterate 2 refine mj_T.pl rfl rfl rfl rfl ?_
    refine mj_T.i2l rfl ⟨by omega, by omega⟩ ?_
    refine mj_T.lrem rfl ⟨by omega, by omega⟩ ⟨by omega, by omega⟩ (by omega) ?_
    rw [show ((W * 1000000000 + jlb R k : Nat) : Int).tmod (f : Int) = ((R / jB ^ k % f : Nat) : Int) by rw [hrest]; rfl]
    refine mj_T.pl rfl rfl rfl rfl ?_
    refine mj_T.iinc (a := k) rfl rfl ?_
    refine mj_T.pl rfl rfl rfl rfl ?_
    refine ih _ _ (by omega) (fun j hj hj2 => ?_) (fun p hp => ?_)
    · unfold upd
      by_cases e : j = k
      · subst e; exact if_pos rfl
      · rw [if_neg (by omega)]; exact h1 j (by omega) hj2
    · unfold upd
      rw [if_neg (fun e => hp k (by omega) (by omega))]
      exact h2 p hp
end JXC

