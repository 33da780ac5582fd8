/-! Divisor: takeAway. -/
/-- below limb i: so many times V is taken from U, the borrow is c, R stays -/
def jta (U V x i c R : Nat) : Prop := U % jB ^ i + c * jB ^ i = x * (V % jB ^ i) + R ∧ R < jB ^ i
theorem jta_zero (U V x : Nat) : jta U V x 0 0 0 := by simp [jta, Nat.mod_one]
theorem jta_le {U V x i c R : Nat} (h : jta U V x i c R) : c ≤ x := by
  have h1 := jB_pow i
  have h2 : x * (V % jB ^ i) ≤ x * jB ^ i := Nat.mul_le_mul_left x (Nat.le_of_lt (Nat.mod_lt _ h1))
  have h3 : c * jB ^ i < (x + 1) * jB ^ i := by
    rw [Nat.succ_mul]
    exact Nat.lt_of_le_of_lt (Nat.le_trans (Nat.le_add_left _ _) (Nat.le_of_eq h.1)) (Nat.add_lt_add_of_le_of_lt h2 h.2)
  have := Nat.lt_of_mul_lt_mul_right h3
  omega
theorem jta_next {U V x i c R c' r : Nat} (h : jta U V x i c R) (hr : r < jB) (e : jlb U i + c' * jB = x * jlb V i + c + r) : jta U V x (i + 1) c' (r * jB ^ i + R) := by
  obtain ⟨h1, h2⟩ := h
  constructor
  · rw [jmod, jmod, Nat.mul_add, Nat.pow_succ]
    have e2 : (jlb U i + c' * jB) * jB ^ i = (x * jlb V i + c + r) * jB ^ i := by rw [e]
    rw [Nat.add_mul, Nat.add_mul, Nat.add_mul] at e2
    rw [show c' * (jB ^ i * jB) = c' * jB * jB ^ i by rw [Nat.mul_comm (jB ^ i), Nat.mul_assoc], show x * (jlb V i * jB ^ i) = x * jlb V i * jB ^ i by rw [Nat.mul_assoc]]
    omega
  · rw [Nat.pow_succ, Nat.mul_comm (jB ^ i)]
    refine Nat.lt_of_lt_of_le (Nat.add_lt_add_left h2 _) ?_
    rw [← Nat.succ_mul]
    exact Nat.mul_le_mul_right _ hr
theorem jw_take_loop {D nd m S U V x place : Nat} {sv fac s2 : Int} {gv gy : Nat → Int32} (hnd : nd ≤ 1000) (hm : m ≤ 1000) (hVn : jnl V ≤ nd) (htop : place + jnl V ≤ S) (hSm : S ≤ m) (hx : x ≤ 1000000000) (hgv : ∀ j, j < jnl V → gv j = jn (jlb V j)) (hgy : ∀ j, j < jnl V → gy (place + j) = jn (jlb U j)) {Q : mj_R → Prop}
    (hend : ∀ (c R : Nat) (gi : Nat → Int32) (l10 l12 : Option Value), jta U V x (jnl V) c R → (∀ j, j < place → gi j = gy j) → (∀ j, j < jnl V → gi (place + j) = jn (jlb R j)) → (∀ j, place + jnl V ≤ j → gi j = gy j) →
      mj_T D mj_m33 123 [some (.ref 0), some (.ref 2), some (.int (jn place)), some (.long (jl x)), none, some (.ref 3), some (.int (jn (place + jnl V : Nat))), some (.long (jl c)), none, some (.int (jn (place + jnl V : Nat))), l10, none, l12, none] [] (jHD nd m (jnl V) sv fac S s2 gv gi) Q) :
    ∀ (d i c R : Nat) (gi : Nat → Int32) (l10 l12 : Option Value), i + d = jnl V → jta U V x i c R → (∀ j, j < place → gi j = gy j) → (∀ j, j < i → gi (place + j) = jn (jlb R j)) → (∀ j, place + i ≤ j → gi j = gy j) →
      mj_T D mj_m33 24 [some (.ref 0), some (.ref 2), some (.int (jn place)), some (.long (jl x)), none, some (.ref 3), some (.int (jn (place + jnl V : Nat))), some (.long (jl c)), none, some (.int (jn (place + i : Nat))), l10, none, l12, none] [] (jHD nd m (jnl V) sv fac S s2 gv gi) Q := by
  intro d
  induction d with
  | zero =>
    intro i c R gi l10 l12 hid hta hg1 hg2 hg3
    have ei : i = jnl V := by omega
    subst ei
    iterate 2 refine mj_T.pl rfl rfl rfl rfl ?_
    refine mj_T.icmp rfl ⟨by omega, by omega⟩ ⟨by omega, by omega⟩ (fun hc28 => ?_) (fun hc28 => ?_)
    · exact hend c R gi l10 l12 hta hg1 hg2 hg3
    · simp only [jc, decide_eq_false_iff_not] at hc28; omega
  | succ d ih =>
    intro i c R gi l10 l12 hid hta hg1 hg2 hg3
    have hcx := jta_le hta
    have hu1 := jlb_lt U i
    have hv1 := jlb_lt V i
    have hpb : x * jlb V i ≤ 1000000000 * 999999999 := Nat.mul_le_mul hx (by omega)
    iterate 2 refine mj_T.pl rfl rfl rfl rfl ?_
    refine mj_T.icmp rfl ⟨by omega, by omega⟩ ⟨by omega, by omega⟩ (fun hc28 => ?_) (fun hc28 => ?_)
    · simp only [jc, decide_eq_true_eq] at hc28; omega
    clear hc28
    iterate 2 refine mj_T.pl rfl rfl rfl rfl ?_
    refine mj_T.alen rfl rfl ?_
    refine mj_T.icmp rfl ⟨by omega, by omega⟩ ⟨by omega, by omega⟩ (fun hc36 => ?_) (fun hc36 => ?_)
    · simp only [jc, decide_eq_true_eq] at hc36; omega
    clear hc36
    iterate 5 refine mj_T.pl rfl rfl rfl rfl ?_
    refine mj_T.isub rfl ?_
    rw [show ((place + i : Nat) : Int) - (place : Int) = (i : Int) by omega]
    refine mj_T.ialv rfl rfl ⟨by omega, by omega⟩ ⟨by omega, by omega⟩ (hgv i (by omega)) ?_
    refine mj_T.i2l rfl ⟨by omega, by omega⟩ ?_
    refine mj_T.lmul rfl ?_
    refine mj_T.pl rfl rfl rfl rfl ?_
    refine mj_T.ladd rfl ?_
    rw [show (x : Int) * ((jlb V i : Nat) : Int) + (c : Int) = ((x * jlb V i + c : Nat) : Int) by rw [Int.natCast_add, Int.natCast_mul]]
    generalize hpp : x * jlb V i = p at *
    generalize htk : p + c = tk at *
    iterate 3 refine mj_T.pl rfl rfl rfl rfl ?_
    refine mj_T.ialv rfl rfl ⟨by omega, by omega⟩ ⟨by omega, by omega⟩ ((hg3 (place + i) (Nat.le_refl _)).trans (hgy i (by omega))) ?_
    refine mj_T.i2l rfl ⟨by omega, by omega⟩ ?_
    iterate 2 refine mj_T.pl rfl rfl rfl rfl ?_
    refine mj_T.lrem (b := 1000000000) rfl ⟨by omega, by omega⟩ ⟨by omega, by omega⟩ (by omega) ?_
    rw [show (tk : Int).tmod 1000000000 = ((tk % 1000000000 : Nat) : Int) from rfl]
    refine mj_T.lsub rfl ?_
    iterate 3 refine mj_T.pl rfl rfl rfl rfl ?_
    refine mj_T.ldiv (b := 1000000000) rfl ⟨by omega, by omega⟩ ⟨by omega, by omega⟩ (by omega) ?_
    rw [show (tk : Int).tdiv 1000000000 = ((tk / 1000000000 : Nat) : Int) from rfl]
    have hdm := Nat.div_add_mod tk 1000000000
    have hml := Nat.mod_lt tk (show 0 < 1000000000 by decide)
    -- what follows, once it is known whether the limb is below 0
    have k : ∀ b r : Nat, r < 1000000000 → (r : Int) = ((jlb U i : Nat) : Int) - ((tk % 1000000000 : Nat) : Int) + b * 1000000000 → (b = 0 ∨ b = 1) → mj_T D mj_m33 89 [some (.ref 0), some (.ref 2), some (.int (jn place)), some (.long (jl x)), none, some (.ref 3), some (.int (jn (place + jnl V : Nat))), some (.long (jl c)), none, some (.int (jn (place + i : Nat))), some (.long (jl tk)), none, some (.long (jl (((jlb U i : Nat) : Int) - ((tk % 1000000000 : Nat) : Int)))), none] [.int (jn b), .long (jl (tk / 1000000000 : Nat))] (jHD nd m (jnl V) sv fac S s2 gv gi) Q := by
      intro b r hr1 hr2 hb
      refine mj_T.i2l rfl ⟨by omega, by omega⟩ ?_
      refine mj_T.ladd rfl ?_
      rw [show ((tk / 1000000000 : Nat) : Int) + (b : Int) = ((tk / 1000000000 + b : Nat) : Int) by omega]
      have nx := jta_next (c' := tk / 1000000000 + b) (r := r) hta hr1 (by
        rw [show jB = 1000000000 from rfl, hpp]
        omega)
      have k2 : mj_T D mj_m33 115 [some (.ref 0), some (.ref 2), some (.int (jn place)), some (.long (jl x)), none, some (.ref 3), some (.int (jn (place + jnl V : Nat))), some (.long (jl (tk / 1000000000 + b : Nat))), none, some (.int (jn (place + i : Nat))), some (.long (jl tk)), none, some (.long (jl (((jlb U i : Nat) : Int) - ((tk % 1000000000 : Nat) : Int)))), none] [.long (jl r), .int (jn (place + i : Nat)), .ref 3] (jHD nd m (jnl V) sv fac S s2 gv gi) Q := by
        refine mj_T.l2i rfl ?_
        refine mj_T.iast rfl rfl ⟨by omega, by omega⟩ ⟨by omega, by omega⟩ ?_
        refine mj_T.iinc (a := (place + i : Nat)) rfl rfl ?_
        refine mj_T.pl rfl rfl rfl rfl ?_
        rw [show ((place + i : Nat) : Int) + 1 = ((place + (i + 1) : Nat) : Int) by omega]
        refine ih (i + 1) _ _ (upd gi (place + i) (jn r)) _ _ (by omega) nx (fun j hj => ?_) (fun j hj => ?_) (fun j hj => ?_)
        · unfold upd
          rw [if_neg (by omega)]
          exact hg1 j hj
        · unfold upd
          by_cases h : j = i
          · subst h
            rw [if_pos rfl, jlb_of hr1 hta.2]
          · rw [if_neg (by omega), jlb_low (by omega)]
            exact hg2 j (by omega)
        · unfold upd
          rw [if_neg (by omega)]
          exact hg3 j (by omega)
      iterate 5 refine mj_T.pl rfl rfl rfl rfl ?_
      refine mj_T.lif (b := 0) rfl rfl ⟨by omega, by omega⟩ ⟨by omega, by omega⟩ (fun hc99 => ?_) (fun hc99 => ?_)
      · simp only [jc, decide_eq_true_eq] at hc99
        refine mj_T.pl rfl rfl rfl rfl ?_
        have e : ((jlb U i : Nat) : Int) - ((tk % 1000000000 : Nat) : Int) = r := by omega
        refine mj_T.eq k2 rfl rfl ?_ rfl
        rw [← e]
      · simp only [jc, decide_eq_false_iff_not] at hc99
        iterate 2 refine mj_T.pl rfl rfl rfl rfl ?_
        refine mj_T.ladd (b := 1000000000) rfl ?_
        refine mj_T.pl rfl rfl rfl rfl ?_
        have e : ((jlb U i : Nat) : Int) - ((tk % 1000000000 : Nat) : Int) + 1000000000 = r := by omega
        refine mj_T.eq k2 rfl rfl ?_ rfl
        rw [← e]
    iterate 2 refine mj_T.pl rfl rfl rfl rfl ?_
    refine mj_T.lif (b := 0) rfl rfl ⟨by omega, by omega⟩ ⟨by omega, by omega⟩ (fun hc80 => ?_) (fun hc80 => ?_)
    · simp only [jc, decide_eq_true_eq] at hc80
      refine mj_T.pl rfl rfl rfl rfl ?_
      exact k 0 (jlb U i - tk % 1000000000) (by omega) (by omega) (Or.inl rfl)
    · simp only [jc, decide_eq_false_iff_not] at hc80
      iterate 2 refine mj_T.pl rfl rfl rfl rfl ?_
      exact k 1 (jlb U i + 1000000000 - tk % 1000000000) (by omega) (by omega) (Or.inr rfl)
theorem jw_takeAway {D nd m S U V x place h : Nat} {sv fac s2 : Int} {gv gy : Nat → Int32} (hnd : nd ≤ 1000) (hm : m ≤ 1000) (hVn : jnl V ≤ nd) (htop : place + jnl V ≤ S) (hSm : S ≤ m) (hx : x ≤ 1000000000) (hh : h < 1000000000) (hgv : ∀ j, j < jnl V → gv j = jn (jlb V j)) (hgy : ∀ j, j < jnl V → gy (place + j) = jn (jlb U j)) (hgt : place + jnl V < S → gy (place + jnl V) = jn h) (hgt2 : ¬ place + jnl V < S → h = 0) :
    mj_Ok (D + 1) 33 [.ref 0, .ref 2, .int (jn place), .long (jl x)] (jHD nd m (jnl V) sv fac S s2 gv gy)
      (fun r => ∃ (c R : Nat) (gi : Nat → Int32), jta U V x (jnl V) c R ∧ (∀ j, j < place → gi j = gy j) ∧ (∀ j, j < jnl V → gi (place + j) = jn (jlb R j)) ∧ (place + jnl V < S → gi (place + jnl V) = jn 0) ∧ (∀ j, place + jnl V < j → gi j = gy j) ∧ r = (.inl (some (.int (jn (if c ≤ h then 1 else 0)))), jHD nd m (jnl V) sv fac S s2 gv gi)) := by
  refine mj_Ok.of (M := mj_m33) rfl rfl rfl ?_
  iterate 6 refine mj_T.pl rfl rfl rfl rfl ?_
  refine mj_T.iadd rfl ?_
  rw [show (place : Int) + (jnl V : Nat) = ((place + jnl V : Nat) : Int) by omega]
  iterate 5 refine mj_T.pl rfl rfl rfl rfl ?_
  refine mj_T.imax (b := 0) rfl rfl (Nat.le_of_ble_eq_true rfl) ⟨by omega, by omega⟩ ⟨by omega, by omega⟩ ?_
  rw [show max (place : Int) 0 = ((place + 0 : Nat) : Int) by omega]
  refine mj_T.pl rfl rfl rfl rfl ?_
  refine jw_take_loop (U := U) (V := V) (x := x) (gy := gy) hnd hm hVn htop hSm hx hgv hgy (fun c R gi l10 l12 hta hg1 hg2 hg3 => ?_) (jnl V) 0 0 0 gy none none (by omega) (jta_zero U V x) (fun j _ => rfl) (fun j hj => by omega) (fun j _ => rfl)
  have hcx := jta_le hta
  iterate 1 refine mj_T.pl rfl rfl rfl rfl ?_
  refine mj_T.if0 rfl ⟨by omega, by omega⟩ (fun hc125 => ?_) (fun hc125 => ?_)
  · simp only [jc, decide_eq_true_eq] at hc125; omega
  iterate 3 refine mj_T.pl rfl rfl rfl rfl ?_
  refine mj_T.icmp rfl ⟨by omega, by omega⟩ ⟨by omega, by omega⟩ (fun hc134 => ?_) (fun hc134 => ?_)
  · simp only [jc, decide_eq_true_eq] at hc134
    have h0 := hgt2 (by omega)
    subst h0
    iterate 2 refine mj_T.pl rfl rfl rfl rfl ?_
    refine mj_T.lif (b := 0) rfl rfl ⟨by omega, by omega⟩ ⟨by omega, by omega⟩ (fun hc147 => ?_) (fun hc147 => ?_)
    · simp only [jc, Bool.not_eq_true', decide_eq_false_iff_not] at hc147
      iterate 1 refine mj_T.pl rfl rfl rfl rfl ?_
      refine mj_T.ret rfl rfl rfl ⟨c, R, gi, hta, hg1, hg2, fun h => by omega, fun j hj => hg3 j (by omega), ?_⟩
      rw [if_neg (by omega)]
    · simp only [jc, Bool.not_eq_false', decide_eq_true_eq] at hc147
      iterate 2 refine mj_T.pl rfl rfl rfl rfl ?_
      refine mj_T.ret rfl rfl rfl ⟨c, R, gi, hta, hg1, hg2, fun h => by omega, fun j hj => hg3 j (by omega), ?_⟩
      rw [if_pos (by omega)]
  · simp only [jc, decide_eq_false_iff_not] at hc134
    have hlt : place + jnl V < S := by omega
    iterate 2 refine mj_T.pl rfl rfl rfl rfl ?_
    refine mj_T.alen rfl rfl ?_
    refine mj_T.icmp rfl ⟨by omega, by omega⟩ ⟨by omega, by omega⟩ (fun hc142 => ?_) (fun hc142 => ?_)
    rotate_left
    · simp only [jc, decide_eq_false_iff_not] at hc142; omega
    have k : ∀ b : Int, b = (if c ≤ h then 1 else 0) → mj_T D mj_m33 175 [some (.ref 0), some (.ref 2), some (.int (jn place)), some (.long (jl x)), none, some (.ref 3), some (.int (jn (place + jnl V : Nat))), some (.long (jl c)), none, some (.int (jn (place + jnl V : Nat))), l10, none, l12, none] [.int (jn b)] (jHD nd m (jnl V) sv fac S s2 gv gi)
        (fun r => ∃ (c R : Nat) (gi : Nat → Int32), jta U V x (jnl V) c R ∧ (∀ j, j < place → gi j = gy j) ∧ (∀ j, j < jnl V → gi (place + j) = jn (jlb R j)) ∧ (place + jnl V < S → gi (place + jnl V) = jn 0) ∧ (∀ j, place + jnl V < j → gi j = gy j) ∧ r = (.inl (some (.int (jn (if c ≤ h then 1 else 0)))), jHD nd m (jnl V) sv fac S s2 gv gi)) := by
      intro b hb
      subst hb
      iterate 4 refine mj_T.pl rfl rfl rfl rfl ?_
      refine mj_T.iast rfl rfl ⟨by omega, by omega⟩ ⟨by omega, by omega⟩ ?_
      iterate 1 refine mj_T.pl rfl rfl rfl rfl ?_
      refine mj_T.ret rfl rfl (v := some (.int (jn (if c ≤ h then 1 else 0)))) ?_ ⟨c, R, upd gi (place + jnl V) (jn 0), hta, fun j hj => ?_, fun j hj => ?_, fun _ => ?_, fun j hj => ?_, rfl⟩
      · by_cases hch : c ≤ h
        · rw [if_pos hch]; rfl
        · rw [if_neg hch]; rfl
      · unfold upd; rw [if_neg (by omega)]; exact hg1 j hj
      · unfold upd; rw [if_neg (by omega)]; exact hg2 j hj
      · unfold upd; rw [if_pos rfl]
      · unfold upd; rw [if_neg (by omega)]; exact hg3 j (by omega)
    iterate 2 refine mj_T.pl rfl rfl rfl rfl ?_
    refine mj_T.ialv rfl rfl ⟨by omega, by omega⟩ ⟨by omega, by omega⟩ ((hg3 (place + jnl V) (Nat.le_refl _)).trans (hgt hlt)) ?_
    refine mj_T.i2l rfl ⟨by omega, by omega⟩ ?_
    refine mj_T.pl rfl rfl rfl rfl ?_
    refine mj_T.lif rfl rfl ⟨by omega, by omega⟩ ⟨by omega, by omega⟩ (fun hc166 => ?_) (fun hc166 => ?_)
    · simp only [jc, decide_eq_true_eq] at hc166
      iterate 1 refine mj_T.pl rfl rfl rfl rfl ?_
      exact k 0 (by rw [if_neg (by omega)])
    · simp only [jc, decide_eq_false_iff_not] at hc166
      iterate 2 refine mj_T.pl rfl rfl rfl rfl ?_
      exact k 1 (by rw [if_pos (by omega)])
