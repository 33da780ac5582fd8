/-! Calls of the reference: interpolation. -/
def rpr (p : Int) : List Int → Int
  | [] => 1
  | q :: R => (p - q) * rpr p R
theorem rpr_mid (p q : Int) (B : List Int) : ∀ A : List Int, rpr p (A ++ q :: B) = (p - q) * rpr p (A ++ B)
  | [] => rfl
  | a :: A => by
    show (p - a) * rpr p (A ++ q :: B) = (p - q) * ((p - a) * rpr p (A ++ B))
    rw [rpr_mid p q B A, Int.mul_left_comm]
/-- the product of the differences of a place and the first others -/
def rdf (p : Int) (g : Nat → Int) (i : Nat) : Nat → Int
  | 0 => 1
  | k + 1 => if k = i then rdf p g i k else rdf p g i k * (p - g k)
theorem rdf_dvd (p : Int) (g : Nat → Int) (i : Nat) : ∀ (k : Nat) (R : List Int), (∀ j, j < k → j ≠ i → g j ∈ R) → (∀ a b, a < b → b < k → g a ≠ g b) → rdf p g i k ∣ rpr p R
  | 0, R, _, _ => ⟨rpr p R, (Int.one_mul _).symm⟩
  | k + 1, R, h1, h2 => by
    unfold rdf
    split
    · exact rdf_dvd p g i k R (fun j hj hne => h1 j (by omega) hne) (fun a b ha hb => h2 a b ha (by omega))
    · rename_i hk
      obtain ⟨A, B, hR⟩ := List.append_of_mem (h1 k (by omega) hk)
      rw [hR, rpr_mid, Int.mul_comm]
      refine Int.mul_dvd_mul (Int.dvd_refl _) (rdf_dvd p g i k (A ++ B) (fun j hj hne => ?_) (fun a b ha hb => h2 a b ha (by omega)))
      have hm := h1 j (by omega) hne
      rw [hR] at hm
      rcases List.mem_append.mp hm with c | c
      · exact List.mem_append.mpr (Or.inl c)
      · rcases List.mem_cons.mp c with c | c
        · exact absurd c (h2 j k hj (by omega))
        · exact List.mem_append.mpr (Or.inr c)
def rpl (x : Nat) : List Int := ((List.range 19).filter (fun y => y != x)).map (fun y : Nat => (y : Int) - 9)
theorem rpl_dvd : ∀ x : Nat, x < 19 → rpr ((x : Int) - 9) (rpl x) ∣ 6402373705728000 := by decide +kernel
theorem rdf_18 {N : Nat → Int} (g : gN N) {i n : Nat} (hn : N 78 = (n : Int)) (hi : i < n) : rdf (N (79 + i)) (fun j => N (79 + j)) i n ∣ 6402373705728000 := by
  obtain ⟨g1, g2, g3, g4⟩ := g
  have hp := (g3 i (by omega)).1
  obtain ⟨x, hx⟩ : ∃ x : Nat, N (79 + i) = (x : Int) - 9 := ⟨(N (79 + i) + 9).toNat, by omega⟩
  have h1 := rpl_dvd x (by omega)
  rw [← hx] at h1
  refine Int.dvd_trans (rdf_dvd _ _ i n (rpl x) (fun j hj hne => ?_) (fun a b hab hb => g4 a b hab (by omega))) h1
  have hq := (g3 j (by omega)).1
  refine List.mem_map.mpr ⟨(N (79 + j) + 9).toNat, List.mem_filter.mpr ⟨List.mem_range.mpr (by omega), ?_⟩, by omega⟩
  have hd : N (79 + j) ≠ N (79 + i) := by
    rcases Nat.lt_or_gt_of_ne hne with c | c
    · exact g4 j i c (by omega)
    · exact fun e => g4 i j c (by omega) e.symm
  have : (N (79 + j) + 9).toNat ≠ x := by omega
  simp [this]
theorem r18_bd {d : Int} (h : d ∣ 6402373705728000) : d ≠ 0 ∧ d.natAbs ∣ 6402373705728000 ∧ d.natAbs ≤ 6402373705728000 := by
  have h1 : d.natAbs ∣ 6402373705728000 := Int.natAbs_dvd_natAbs.mpr h
  refine ⟨fun e => ?_, h1, Nat.le_of_dvd (by decide) h1⟩
  rw [e] at h
  obtain ⟨c, hc⟩ := h
  rw [Int.zero_mul] at hc
  exact absurd hc (by decide)
section RIP
variable {D pc r1 r2 r3 r4 r5 : Nat} {M : mj_M} {loc : mj_L} {st : List Value} {h : mj_H} {Q : mj_R → Prop}
theorem mj_T.ldv {x y : Int64} (hc : M.2.2.2.2.1 pc = some (.ldiv, r1, r2, r3, r4, r5)) (hy : y ≠ 0) (k : ∀ w : Int64, mj_T D M (pc + 1) loc (.long w :: st) h Q) : mj_T D M pc loc (.long y :: .long x :: st) h Q :=
  mj_T.step hc rfl (by simp only [mj_step]; rw [if_neg hy]) (k _)
end RIP
theorem rp_ip1 : 169 * ((169 * 9) ^ 5 * 9) ≤ (169 * 9) ^ 6 := by decide +kernel
theorem rp_ip2 : (169 * 9) ^ 6 < jB ^ 698 := by decide +kernel
theorem rp_ip3 : 999 * 9223372036854775808 < jB ^ 698 := by decide +kernel
theorem rp_ip4 : 7 * ((169 * 9) ^ 6 * (999 * 9223372036854775808)) < jB ^ 698 := by decide +kernel
section RPU
variable {h : mj_H} {tm er : Int} {T : Nat → Int}
theorem rp_cm_loop {l0 l1 l2 : Option Value} {D g : Nat} {Q : mj_R → Prop} (hend : Q (.inl (some (.long (jl (g : Int)))), h)) :
    ∀ (b a : Nat) (l8 l9 : Option Value), a ≤ 9223372036854775807 → b ≤ 9223372036854775807 → Nat.gcd a b = g → mj_T D mj_m248 28 [l0, l1, l2, none, some (.long (jl (a : Int))), none, some (.long (jl (b : Int))), none, l8, l9] [] h Q := by
  intro b
  induction b using Nat.strongRecOn with
  | _ b ih =>
    intro a l8 l9 ha hb hg
    iterate 2 refine mj_T.pl rfl rfl rfl rfl ?_
    refine mj_T.lif (a := (b : Int)) (b := 0) rfl rfl ⟨by omega, by omega⟩ ⟨by decide, by decide⟩ (fun hc => ?_) (fun hc => ?_)
    · simp only [jc, decide_eq_true_eq] at hc
      have hb0 : b = 0 := by omega
      rw [hb0, Nat.gcd_zero_right] at hg
      subst hg
      refine mj_T.pl rfl rfl rfl rfl ?_
      exact mj_T.ret rfl rfl rfl hend
    · simp only [jc, decide_eq_false_iff_not] at hc
      iterate 2 refine mj_T.pl rfl rfl rfl rfl ?_
      refine mj_T.lrem (a := (a : Int)) (b := (b : Int)) rfl ⟨by omega, by omega⟩ ⟨by omega, by omega⟩ (by omega) ?_
      rw [show (a : Int).tmod (b : Int) = ((a % b : Nat) : Int) from rfl]
      iterate 6 refine mj_T.pl rfl rfl rfl rfl ?_
      have hm : a % b < b := Nat.mod_lt _ (by omega)
      exact ih (a % b) hm b _ _ hb (by omega) (by rw [← hg, Nat.gcd_comm a b, Nat.gcd_rec b a, Nat.gcd_comm])
theorem rp_common {D : Nat} {a b : Int} (ha : a.natAbs ≤ 9223372036854775807) (hb : b.natAbs ≤ 9223372036854775807) : mj_Ok (D + 1) 248 [.long (jl a), .long (jl b)] h (fun r => r = (.inl (some (.long (jl (Nat.gcd a.natAbs b.natAbs : Nat)))), h)) := by
  refine mj_Ok.of (M := mj_m248) rfl rfl rfl ?_
  have t26 : ∀ z : Nat, z = b.natAbs → mj_T D mj_m248 26 [some (.long (jl a)), none, some (.long (jl b)), none, some (.long (jl (a.natAbs : Int))), none, none, none, none, none] [.long (jl (z : Int))] h (fun r => r = (.inl (some (.long (jl (Nat.gcd a.natAbs b.natAbs : Nat)))), h)) := fun z hz => by
    refine mj_T.pl rfl rfl rfl rfl ?_
    subst hz
    exact rp_cm_loop (Q := fun r => r = (.inl (some (.long (jl (Nat.gcd a.natAbs b.natAbs : Nat)))), h)) rfl b.natAbs a.natAbs none none ha hb rfl
  have t12 : ∀ z : Nat, z = a.natAbs → mj_T D mj_m248 12 [some (.long (jl a)), none, some (.long (jl b)), none, none, none, none, none, none, none] [.long (jl (z : Int))] h (fun r => r = (.inl (some (.long (jl (Nat.gcd a.natAbs b.natAbs : Nat)))), h)) := fun z hz => by
    refine mj_T.pl rfl rfl rfl rfl ?_
    subst hz
    iterate 2 refine mj_T.pl rfl rfl rfl rfl ?_
    refine mj_T.lif (a := b) (b := 0) rfl rfl ⟨by omega, by omega⟩ ⟨by decide, by decide⟩ (fun hc => ?_) (fun hc => ?_)
    · simp only [jc, decide_eq_true_eq] at hc
      refine mj_T.pl rfl rfl rfl rfl ?_
      have e : b = ((b.natAbs : Nat) : Int) := by omega
      refine mj_T.eq (st2 := [.long (jl ((b.natAbs : Nat) : Int))]) (t26 _ rfl) rfl rfl (by rw [← e]) rfl
    · simp only [jc, decide_eq_false_iff_not] at hc
      refine mj_T.pl rfl rfl rfl rfl ?_
      refine mj_T.lneg rfl ?_
      refine mj_T.pl rfl rfl rfl rfl ?_
      have e : -b = ((b.natAbs : Nat) : Int) := by omega
      refine mj_T.eq (st2 := [.long (jl ((b.natAbs : Nat) : Int))]) (t26 _ rfl) rfl rfl (by rw [← e]) rfl
  iterate 2 refine mj_T.pl rfl rfl rfl rfl ?_
  refine mj_T.lif (a := a) (b := 0) rfl rfl ⟨by omega, by omega⟩ ⟨by decide, by decide⟩ (fun hc => ?_) (fun hc => ?_)
  · simp only [jc, decide_eq_true_eq] at hc
    refine mj_T.pl rfl rfl rfl rfl ?_
    have e : a = ((a.natAbs : Nat) : Int) := by omega
    refine mj_T.eq (st2 := [.long (jl ((a.natAbs : Nat) : Int))]) (t12 _ rfl) rfl rfl (by rw [← e]) rfl
  · simp only [jc, decide_eq_false_iff_not] at hc
    refine mj_T.pl rfl rfl rfl rfl ?_
    refine mj_T.lneg rfl ?_
    refine mj_T.pl rfl rfl rfl rfl ?_
    have e : -a = ((a.natAbs : Nat) : Int) := by omega
    refine mj_T.eq (st2 := [.long (jl ((a.natAbs : Nat) : Int))]) (t12 _ rfl) rfl rfl (by rw [← e]) rfl
theorem rp_df_loop {S N B X V : Nat → Int} {D i n : Nat} (hi : i < n) (hn6 : n ≤ 6) (hn : N 78 = (n : Int)) (hs : rS S N B T X V h) {Q : mj_R → Prop} (hend : Q (.inl (some (.long (jl (rdf (N (79 + i)) (fun j => N (79 + j)) i n)))), h)) :
    ∀ (m k : Nat), k + m = n → mj_T D mj_m249 5 [some (.ref 0), some (.int (jn (i : Int))), some (.long (jl (rdf (N (79 + i)) (fun j => N (79 + j)) i k))), none, some (.int (jn (k : Int)))] [] h Q := by
  intro m
  induction m with
  | zero =>
    intro k hk
    have hkn : k = n := by omega
    subst hkn
    refine mj_T.pl rfl rfl rfl rfl ?_
    refine mj_T.i2l rfl ⟨by omega, by omega⟩ ?_
    refine mj_T.pl rfl rfl rfl rfl ?_
    refine rT_get hs rfl rfl ?_
    refine mj_T.pl rfl rfl rfl rfl ?_
    refine rT_ldN (i := ((78 : Nat) : Int)) hs rfl ⟨by decide, by decide⟩ ?_
    rw [Int.toNat_natCast, hn]
    refine mj_T.lif (a := (k : Int)) (b := (k : Int)) rfl rfl ⟨by omega, by omega⟩ ⟨by omega, by omega⟩ (fun hc => ?_) (fun hc => ?_)
    · refine mj_T.pl rfl rfl rfl rfl ?_
      exact mj_T.ret rfl rfl rfl hend
    · simp only [jc, decide_eq_false_iff_not] at hc
      omega
  | succ m ih =>
    intro k hk
    refine mj_T.pl rfl rfl rfl rfl ?_
    refine mj_T.i2l rfl ⟨by omega, by omega⟩ ?_
    refine mj_T.pl rfl rfl rfl rfl ?_
    refine rT_get hs rfl rfl ?_
    refine mj_T.pl rfl rfl rfl rfl ?_
    refine rT_ldN (i := ((78 : Nat) : Int)) hs rfl ⟨by decide, by decide⟩ ?_
    rw [Int.toNat_natCast, hn]
    refine mj_T.lif (a := (k : Int)) (b := (n : Int)) rfl rfl ⟨by omega, by omega⟩ ⟨by omega, by omega⟩ (fun hc => ?_) (fun hc => ?_)
    · simp only [jc, decide_eq_true_eq] at hc
      omega
    iterate 2 refine mj_T.pl rfl rfl rfl rfl ?_
    refine mj_T.icmp (a := (k : Int)) (b := (i : Int)) rfl ⟨by omega, by omega⟩ ⟨by omega, by omega⟩ (fun hc2 => ?_) (fun hc2 => ?_)
    · simp only [jc, decide_eq_true_eq] at hc2
      refine mj_T.iinc (a := (k : Int)) rfl rfl ?_
      refine mj_T.pl rfl rfl rfl rfl ?_
      have e : rdf (N (79 + i)) (fun j => N (79 + j)) i k = rdf (N (79 + i)) (fun j => N (79 + j)) i (k + 1) := (if_pos (by omega)).symm
      rw [e]
      exact ih (k + 1) (by omega)
    · simp only [jc, decide_eq_false_iff_not] at hc2
      iterate 2 refine mj_T.pl rfl rfl rfl rfl ?_
      refine rT_get hs rfl rfl ?_
      iterate 2 refine mj_T.pl rfl rfl rfl rfl ?_
      refine mj_T.iadd (a := 79) (b := (i : Int)) rfl ?_
      rw [show (79 : Int) + (i : Int) = ((79 + i : Nat) : Int) by omega]
      refine rT_ldN hs rfl ⟨by omega, by omega⟩ ?_
      rw [Int.toNat_natCast]
      refine mj_T.pl rfl rfl rfl rfl ?_
      refine rT_get hs rfl rfl ?_
      iterate 2 refine mj_T.pl rfl rfl rfl rfl ?_
      refine mj_T.iadd (a := 79) (b := (k : Int)) rfl ?_
      rw [show (79 : Int) + (k : Int) = ((79 + k : Nat) : Int) by omega]
      refine rT_ldN hs rfl ⟨by omega, by omega⟩ ?_
      rw [Int.toNat_natCast]
      refine mj_T.lsub rfl ?_
      refine mj_T.lmul rfl ?_
      have e : rdf (N (79 + i)) (fun j => N (79 + j)) i k * (N (79 + i) - N (79 + k)) = rdf (N (79 + i)) (fun j => N (79 + j)) i (k + 1) := (if_neg (by omega)).symm
      rw [e]
      refine mj_T.pl rfl rfl rfl rfl ?_
      refine mj_T.iinc (a := (k : Int)) rfl rfl ?_
      refine mj_T.pl rfl rfl rfl rfl ?_
      exact ih (k + 1) (by omega)
theorem rp_differences {S N B X V : Nat → Int} {D i n : Nat} (g : gN N) (hi : i < n) (hn : N 78 = (n : Int)) (hs : rS S N B T X V h) : mj_Ok (D + 1) 249 [.ref 0, .int (jn (i : Int))] h (fun r => ∃ d : Int, (d ≠ 0 ∧ d.natAbs ∣ 6402373705728000 ∧ d.natAbs ≤ 6402373705728000) ∧ r = (.inl (some (.long (jl d))), h)) := by
  refine mj_Ok.of (M := mj_m249) rfl rfl rfl ?_
  iterate 4 refine mj_T.pl rfl rfl rfl rfl ?_
  exact rp_df_loop (D := D) hi (by have := g.2.1.2; omega) hn hs (Q := fun r => ∃ d : Int, (d ≠ 0 ∧ d.natAbs ∣ 6402373705728000 ∧ d.natAbs ≤ 6402373705728000) ∧ r = (.inl (some (.long (jl d))), h)) ⟨_, r18_bd (rdf_18 g hn hi), rfl⟩ n 0 (by omega)
theorem rp_lp_loop {S N B X V0 : Nat → Int} {i n : Nat} (g : gN N) (hi : i < n) (hn6 : n ≤ 6) (hn : N 78 = (n : Int)) {Q : mj_R → Prop} (hend : ∀ (V : Nat → Int) (h : mj_H), rS S N B T X V h → (∀ s, (s < 26 ∨ 39 ≤ s) → (s < 65 ∨ 78 ≤ s) → (s < 91 ∨ 104 ≤ s) → s ≠ 652 → V s = V0 s) → (∀ e, e < 13 → (V (2 * 13 + e)).natAbs ≤ (169 * 9) ^ 6) → Q (.inl none, h)) :
    ∀ (m k : Nat) (V : Nat → Int) (h : mj_H), k + m = n → rS S N B T X V h → (∀ s, (s < 26 ∨ 39 ≤ s) → (s < 65 ∨ 78 ≤ s) → (s < 91 ∨ 104 ≤ s) → s ≠ 652 → V s = V0 s) → (∀ e, e < 13 → (V (2 * 13 + e)).natAbs ≤ (169 * 9) ^ k) → jdg V 2 13 ≤ k + 1 → mj_T 38 mj_m250 17 [some (.ref 0), some (.int (jn (i : Int))), some (.int (jn (k : Int)))] [] h Q := by
  intro m
  induction m with
  | zero =>
    intro k V h hk hs f c1 c2
    have hkn : k = n := by omega
    subst hkn
    refine mj_T.pl rfl rfl rfl rfl ?_
    refine mj_T.i2l rfl ⟨by omega, by omega⟩ ?_
    refine mj_T.pl rfl rfl rfl rfl ?_
    refine rT_get hs rfl rfl ?_
    refine mj_T.pl rfl rfl rfl rfl ?_
    refine rT_ldN (i := ((78 : Nat) : Int)) hs rfl ⟨by decide, by decide⟩ ?_
    rw [Int.toNat_natCast, hn]
    refine mj_T.lif (a := (k : Int)) (b := (k : Int)) rfl rfl ⟨by omega, by omega⟩ ⟨by omega, by omega⟩ (fun hc => ?_) (fun hc => ?_)
    · exact mj_T.ret rfl rfl rfl (hend V h hs f (fun e he => Nat.le_trans (c1 e he) (Nat.pow_le_pow_right (by decide) hn6)))
    · simp only [jc, decide_eq_false_iff_not] at hc
      omega
  | succ m ih =>
    intro k V h hk hs f c1 c2
    refine mj_T.pl rfl rfl rfl rfl ?_
    refine mj_T.i2l rfl ⟨by omega, by omega⟩ ?_
    refine mj_T.pl rfl rfl rfl rfl ?_
    refine rT_get hs rfl rfl ?_
    refine mj_T.pl rfl rfl rfl rfl ?_
    refine rT_ldN (i := ((78 : Nat) : Int)) hs rfl ⟨by decide, by decide⟩ ?_
    rw [Int.toNat_natCast, hn]
    refine mj_T.lif (a := (k : Int)) (b := (n : Int)) rfl rfl ⟨by omega, by omega⟩ ⟨by omega, by omega⟩ (fun hc => ?_) (fun hc => ?_)
    · simp only [jc, decide_eq_true_eq] at hc
      omega
    iterate 2 refine mj_T.pl rfl rfl rfl rfl ?_
    refine mj_T.icmp (a := (k : Int)) (b := (i : Int)) rfl ⟨by omega, by omega⟩ ⟨by omega, by omega⟩ (fun hc2 => ?_) (fun hc2 => ?_)
    rotate_left
    · refine mj_T.pl rfl rfl rfl rfl ?_
      refine mj_T.iinc (a := (k : Int)) rfl rfl ?_
      refine mj_T.pl rfl rfl rfl rfl ?_
      exact ih (k + 1) V h (by omega) hs f (fun e he => Nat.le_trans (c1 e he) (Nat.pow_le_pow_right (by decide) (by omega))) (by omega)
    iterate 2 refine mj_T.pl rfl rfl rfl rfl ?_
    refine mj_T.call (ins := .invokevirtual 110) rfl rfl (Nat.le_of_ble_eq_true rfl) (Nat.le_of_ble_eq_true rfl) (by simp [mj_recv, rS_f hs]) rfl (mj_Ok.up (by decide) (jp_empties (D := 0) (rG S N B T X) (p := 5) (by decide) hs)) (fun v' g1 hq' => ?_) (fun i h' hq' => by obtain ⟨_, _, h⟩ := hq'; cases h)
    obtain ⟨_, hs1, hq'⟩ := hq'
    cases hq'
    have q1 : ∀ e, e < 13 → jfl V 5 (fun _ => 0) 13 (5 * 13 + e) = 0 := fun e he => jfl_at _ _ _ he
    have q2 : ∀ s, (s < 65 ∨ 78 ≤ s) → jfl V 5 (fun _ => 0) 13 s = V s := fun s hc => jfl_off _ _ _ (by omega)
    generalize jfl V 5 (fun _ => 0) 13 = W1 at hs1 q1 q2
    iterate 3 refine mj_T.pl rfl rfl rfl rfl ?_
    refine mj_T.call (ins := .invokestatic 104) rfl rfl (Nat.le_of_ble_eq_true rfl) (Nat.le_of_ble_eq_true rfl) rfl rfl (mj_Ok.up (by decide) (jq_slot (D := 0) (p := 5) (i := 0))) (fun v' h' hq' => ?_) (fun i h' hq' => by cases hq')
    cases hq'
    refine mj_T.pl rfl rfl rfl rfl ?_
    refine rT_get hs1 rfl rfl ?_
    iterate 2 refine mj_T.pl rfl rfl rfl rfl ?_
    refine mj_T.iadd (a := 79) (b := (k : Int)) rfl ?_
    rw [show (79 : Int) + (k : Int) = ((79 + k : Nat) : Int) by omega]
    refine rT_ldN hs1 rfl ⟨by omega, by omega⟩ ?_
    rw [Int.toNat_natCast]
    refine mj_T.lneg rfl ?_
    have hp := (g.2.2.1 k (by omega)).1
    refine mj_T.call (ins := .invokevirtual 45) rfl rfl (Nat.le_of_ble_eq_true rfl) (Nat.le_of_ble_eq_true rfl) (by simp [mj_recv, rS_f hs1]) rfl (mj_Ok.up (by decide) (jS_sets (D := 0) (rG S N B T X) (s := 5 * 13 + 0) (v := -N (79 + k)) (by decide) ⟨by omega, by omega⟩ hs1)) (fun v' g2 hq' => ?_) (fun i h' hq' => by obtain ⟨_, _, h⟩ := hq'; cases h)
    obtain ⟨_, hs2, hq'⟩ := hq'
    cases hq'
    have a1 : jvu W1 (5 * 13 + 0) (-N (79 + k)) (5 * 13 + 0) = -N (79 + k) := jvu_at _ _ _
    have a2 : ∀ s, s ≠ 5 * 13 + 0 → jvu W1 (5 * 13 + 0) (-N (79 + k)) s = W1 s := fun s hne => jvu_ne _ _ _ hne
    generalize jvu W1 (5 * 13 + 0) (-N (79 + k)) = W2 at hs2 a1 a2
    iterate 3 refine mj_T.pl rfl rfl rfl rfl ?_
    refine mj_T.call (ins := .invokestatic 104) rfl rfl (Nat.le_of_ble_eq_true rfl) (Nat.le_of_ble_eq_true rfl) rfl rfl (mj_Ok.up (by decide) (jq_slot (D := 0) (p := 5) (i := 1))) (fun v' h' hq' => ?_) (fun i h' hq' => by cases hq')
    cases hq'
    refine mj_T.pl rfl rfl rfl rfl ?_
    refine mj_T.call (ins := .invokevirtual 45) rfl rfl (Nat.le_of_ble_eq_true rfl) (Nat.le_of_ble_eq_true rfl) (by simp [mj_recv, rS_f hs2]) rfl (mj_Ok.up (by decide) (jS_sets (D := 0) (rG S N B T X) (s := 5 * 13 + 1) (v := 1) (by decide) ⟨by decide, by decide⟩ hs2)) (fun v' g3 hq' => ?_) (fun i h' hq' => by obtain ⟨_, _, h⟩ := hq'; cases h)
    obtain ⟨_, hs3, hq'⟩ := hq'
    cases hq'
    have b1 : jvu W2 (5 * 13 + 1) (1) (5 * 13 + 1) = 1 := jvu_at _ _ _
    have b2 : ∀ s, s ≠ 5 * 13 + 1 → jvu W2 (5 * 13 + 1) (1) s = W2 s := fun s hne => jvu_ne _ _ _ hne
    generalize jvu W2 (5 * 13 + 1) (1) = W3 at hs3 b1 b2
    have c5 : ∀ e, e < 13 → (W3 (5 * 13 + e)).natAbs ≤ 9 := fun e he => by
      by_cases e1 : e = 1
      · subst e1
        rw [b1]
        decide
      · rw [b2 _ (by omega)]
        by_cases e0 : e = 0
        · subst e0
          rw [a1]
          omega
        · rw [a2 _ (by omega), q1 e he]
          exact Nat.zero_le _
    have d5 : jdg W3 5 13 ≤ 2 := jdg_of_zero fun e x1 x2 => by rw [b2 _ (by omega), a2 _ (by omega), q1 e x2]
    have c3 : ∀ e, e < 13 → W3 (2 * 13 + e) = V (2 * 13 + e) := fun e he => by rw [b2 _ (by omega), a2 _ (by omega), q2 _ (by omega)]
    have d2 : jdg W3 2 13 = jdg V 2 13 := jdg_congr 13 c3
    have hsz : 169 * ((169 * 9) ^ k * 9) = (169 * 9) ^ (k + 1) := by rw [Nat.pow_succ, ← Nat.mul_assoc, Nat.mul_comm 169, Nat.mul_assoc]
    have hmx : (169 * 9) ^ (k + 1) ≤ (169 * 9) ^ 6 := Nat.pow_le_pow_right (by decide) (by omega)
    have h2x := rp_ip2
    iterate 4 refine mj_T.pl rfl rfl rfl rfl ?_
    refine mj_T.call (ins := .invokevirtual 121) rfl rfl (Nat.le_of_ble_eq_true rfl) (Nat.le_of_ble_eq_true rfl) (by simp [mj_recv, rS_f hs3]) rfl (mj_Ok.up (by decide) (jp_multipliesPoly (D := 0) (V := W3) (rG S N B T X) (to := 7) (a := 2) (b := 5) (by decide) (by decide) (by decide) (by decide) (by decide) (al := (169 * 9) ^ k) (be := 9) (fun e he => by rw [c3 e he]; exact c1 e he) c5 (by omega) (by omega) hs3)) (fun v' g2 hq' => ?_) (fun i h' hq' => by obtain ⟨_, _, _, _, _, _, h⟩ := hq'; cases h)
    obtain ⟨W2, _, hs2, e1, e2, e3, hq'⟩ := hq'
    cases hq'
    iterate 3 refine mj_T.pl rfl rfl rfl rfl ?_
    refine mj_T.call (ins := .invokevirtual 124) rfl rfl (Nat.le_of_ble_eq_true rfl) (Nat.le_of_ble_eq_true rfl) (by simp [mj_recv, rS_f hs2]) rfl (mj_Ok.up (by decide) (jp_copiesPoly (D := 0) (V := W2) (rG S N B T X) (p := 2) (q := 7) (by decide) (by decide) (by decide) hs2)) (fun v' g9 hq' => ?_) (fun i h' hq' => by obtain ⟨_, _, h⟩ := hq'; cases h)
    obtain ⟨_, hs9, hq'⟩ := hq'
    cases hq'
    have i1 : ∀ e, e < 13 → jfl W2 2 (fun e => W2 (7 * 13 + e)) 13 (2 * 13 + e) = W2 (7 * 13 + e) := fun e he => jfl_at _ _ _ he
    have i2 : ∀ s, (s < 26 ∨ 39 ≤ s) → jfl W2 2 (fun e => W2 (7 * 13 + e)) 13 s = W2 s := fun s hc => jfl_off _ _ _ (by omega)
    generalize jfl W2 2 (fun e => W2 (7 * 13 + e)) 13 = W9 at hs9 i1 i2
    refine mj_T.iinc (a := (k : Int)) rfl rfl ?_
    refine mj_T.pl rfl rfl rfl rfl ?_
    refine ih (k + 1) W9 g9 (by omega) hs9 (fun s x1 x2 x3 x4 => by rw [i2 s x1, e1 s (by omega) x4, b2 s (by omega), a2 s (by omega), q2 s x2, f s x1 x2 x3 x4]) (fun e he => ?_) ?_
    · rw [i1 e he]
      have := e2 e he
      omega
    · have := jdg_congr (V := W2) (W := W9) (p := 7) (q := 2) 13 i1
      omega
theorem rp_laysProduct {S N B X V : Nat → Int} {i n : Nat} (g : gN N) (hi : i < n) (hn : N 78 = (n : Int)) (hs : rS S N B T X V h) : mj_Ok 39 250 [.ref 0, .int (jn (i : Int))] h (fun r => ∃ (W : Nat → Int) (h' : mj_H), rS S N B T X W h' ∧ (∀ s, (s < 26 ∨ 39 ≤ s) → (s < 65 ∨ 78 ≤ s) → (s < 91 ∨ 104 ≤ s) → s ≠ 652 → W s = V s) ∧ (∀ e, e < 13 → (W (2 * 13 + e)).natAbs ≤ (169 * 9) ^ 6) ∧ r = (.inl none, h')) := by
  refine mj_Ok.of (M := mj_m250) rfl rfl rfl ?_
  have hn6 := g.2.1.2
  iterate 2 refine mj_T.pl rfl rfl rfl rfl ?_
  refine mj_T.call (ins := .invokevirtual 110) rfl rfl (Nat.le_of_ble_eq_true rfl) (Nat.le_of_ble_eq_true rfl) (by simp [mj_recv, rS_f hs]) rfl (mj_Ok.up (by decide) (jp_empties (D := 0) (rG S N B T X) (p := 2) (by decide) hs)) (fun v' g1 hq' => ?_) (fun i h' hq' => by obtain ⟨_, _, h⟩ := hq'; cases h)
  obtain ⟨_, hs1, hq'⟩ := hq'
  cases hq'
  have q1 : ∀ e, e < 13 → jfl V 2 (fun _ => 0) 13 (2 * 13 + e) = 0 := fun e he => jfl_at _ _ _ he
  have q2 : ∀ s, (s < 26 ∨ 39 ≤ s) → jfl V 2 (fun _ => 0) 13 s = V s := fun s hc => jfl_off _ _ _ (by omega)
  generalize jfl V 2 (fun _ => 0) 13 = W1 at hs1 q1 q2
  iterate 3 refine mj_T.pl rfl rfl rfl rfl ?_
  refine mj_T.call (ins := .invokestatic 104) rfl rfl (Nat.le_of_ble_eq_true rfl) (Nat.le_of_ble_eq_true rfl) rfl rfl (mj_Ok.up (by decide) (jq_slot (D := 0) (p := 2) (i := 0))) (fun v' h' hq' => ?_) (fun i h' hq' => by cases hq')
  cases hq'
  refine mj_T.pl rfl rfl rfl rfl ?_
  refine mj_T.call (ins := .invokevirtual 45) rfl rfl (Nat.le_of_ble_eq_true rfl) (Nat.le_of_ble_eq_true rfl) (by simp [mj_recv, rS_f hs1]) rfl (mj_Ok.up (by decide) (jS_sets (D := 0) (rG S N B T X) (s := 2 * 13 + 0) (v := 1) (by decide) ⟨by decide, by decide⟩ hs1)) (fun v' g2 hq' => ?_) (fun i h' hq' => by obtain ⟨_, _, h⟩ := hq'; cases h)
  obtain ⟨_, hs2, hq'⟩ := hq'
  cases hq'
  have a1 : jvu W1 (2 * 13 + 0) (1) (2 * 13 + 0) = 1 := jvu_at _ _ _
  have a2 : ∀ s, s ≠ 2 * 13 + 0 → jvu W1 (2 * 13 + 0) (1) s = W1 s := fun s hne => jvu_ne _ _ _ hne
  generalize jvu W1 (2 * 13 + 0) (1) = W2 at hs2 a1 a2
  iterate 2 refine mj_T.pl rfl rfl rfl rfl ?_
  exact rp_lp_loop (V0 := V) g hi (by omega) hn (fun W h k1 k2 k3 => ⟨W, h, k1, k2, k3, rfl⟩) n 0 W2 g2 (by omega) hs2 (fun s x1 x2 x3 x4 => by rw [a2 s (by omega), q2 s x1]) (fun e he => by
    by_cases e0 : e = 0
    · subst e0
      rw [a1]
      exact Nat.le_refl _
    · rw [a2 _ (by omega), q1 e he]
      exact Nat.zero_le _) (jdg_of_zero fun e x1 x2 => by rw [a2 _ (by omega), q1 e x2])
end RPU
