/-! The fast machine's new cells and the methods that are not walked; then its straight steps together. -/
def mq_wv (w : mq_W) (v : Value) : Bool := match w, v with
  | (Sum.inl x), .int y => decide (jn x = y)
  | (Sum.inr (Sum.inr (Sum.inl x))), .long y => decide (jl x = y)
  | (Sum.inr (Sum.inr (Sum.inr (Sum.inr (Sum.inr (Sum.inr (Sum.inr (Sum.inr none)))))))), .null => true
  | _, _ => false
def mq_ws : List mq_W → List Value → Bool
  | [], [] => true
  | w :: l, v :: m => mq_wv w v && mq_ws l m
  | _, _ => false
theorem mq_wv_of {ρ : Nat → Nat} {w : mq_W} {v : Value} (h : mq_wv w v = true) : v = mq_val ρ w := by
  unfold mq_wv at h
  split at h
  · have := of_decide_eq_true h
    subst this
    rfl
  · have := of_decide_eq_true h
    subst this
    rfl
  · rfl
  · cases h
theorem mq_ws_of {ρ : Nat → Nat} : ∀ {l : List mq_W} {m : List Value}, mq_ws l m = true → m.length = l.length ∧ ∀ i, i < l.length → mq_kn (mq_nth (Sum.inr (Sum.inr (Sum.inr (Sum.inr (Sum.inr (Sum.inr (Sum.inr (Sum.inr (some none))))))))) l i) = true → m[i]? = some (mq_val ρ (mq_nth (Sum.inr (Sum.inr (Sum.inr (Sum.inr (Sum.inr (Sum.inr (Sum.inr (Sum.inr (some none))))))))) l i))
  | [], [], _ => ⟨rfl, fun i hi => absurd hi (by simp)⟩
  | [], _ :: _, h => by cases h
  | _ :: _, [], h => by cases h
  | w :: l, v :: m, h => by
    unfold mq_ws at h
    rw [Bool.and_eq_true] at h
    obtain ⟨h1, h2⟩ := mq_ws_of (ρ := ρ) h.2
    refine ⟨by simp [h1], fun i hi hk => ?_⟩
    cases i with
    | zero =>
      rw [mq_nth_zero, mq_wv_of (ρ := ρ) h.1]
      rfl
    | succ i =>
      rw [mq_nth_succ] at hk ⊢
      exact h2 i (by simp only [List.length_cons] at hi; omega) hk
theorem mq_dep_of {len : Nat} (h : len ≤ 1000000) : len ≤ 2 ^ mq_dep len := by
  have key : ∀ (k d : Nat) (x : Nat), (len ≤ k → len ≤ 2 ^ d) → (len ≤ 2 ^ x) → len ≤ 2 ^ (cond (Nat.ble len k) d x) := fun k d x h1 h2 => by
    cases hb : Nat.ble len k
    · exact h2
    · exact h1 (Nat.ble_eq.mp hb)
  unfold mq_dep
  exact key _ _ _ (fun h => h) (key _ _ _ (fun h => h) (key _ _ _ (fun h => h) (key _ _ _ (fun h => h) (key _ _ _ (fun h => h) (key _ _ _ (fun h => h) (key _ _ _ (fun h => h) (Nat.le_trans h (by decide))))))))
theorem mq_dv_of {ρ : Nat → Nat} {ty : Nat} : mj_df ty = if ty ≤ 2 then mq_val ρ (mq_dv ty) else .null := by
  match ty with
  | 0 => rfl
  | 1 => rfl
  | 2 => rfl
  | ty + 3 =>
    rw [if_neg (by omega)]
    rfl
theorem mq_dv_3 {ty : Nat} (h : 3 ≤ ty) : mq_dv ty = (Sum.inr (Sum.inr (Sum.inr (Sum.inr (Sum.inr (Sum.inr (Sum.inr (Sum.inr none)))))))) := by
  unfold mq_dv
  have h1 : Nat.beq ty 1 = false := by rw [← Bool.not_eq_true, Nat.beq_eq]; omega
  have h2 : Nat.ble ty 2 = false := by rw [← Bool.not_eq_true, Nat.ble_eq]; omega
  rw [h1, h2]
  rfl
theorem mq_jn_size {len : Nat} (h : len ≤ 1000000) : (0 : Int32) ≤ jn (len : Nat) ∧ (jn (len : Nat)).toNatClampNeg = len := by
  have hr : jr (len : Int) := ⟨by omega, by omega⟩
  refine ⟨?_, by rw [jn_nat (by omega) hr]; rfl⟩
  rw [show (0 : Int32) = jn 0 from rfl, jn_le ⟨by decide, by decide⟩ hr]
  omega
theorem mq_new_ok {ρ : Nat → Nat} {h : mj_H} {ty len : Nat} {f : Nat → Value} (q2 : len ≤ 1000000) (hf : ∀ j, f j = mq_val ρ (mq_dv ty)) : mq_pl (mq_new ty len) ∧ mq_cr ρ h (mq_new ty len) (.inl (ty, len, f)) := by
  unfold mq_new
  cases hb : mq_and (Nat.beq ty 0) (Nat.beq len (nat_lit 466830))
  · cases hb2 : mq_and (Nat.beq ty 0) (or (Nat.beq len (nat_lit 1404)) (Nat.beq len (nat_lit 702)))
    · exact ⟨trivial, f, rfl, ⟨mq_wl.leaf (mq_dep_of q2) _, q2⟩, fun j _ _ => by rw [mq_get_l]; exact hf j⟩
    · exact ⟨trivial, f, rfl, ⟨mq_wl.leaf (mq_dep_of q2) _, q2⟩, fun j _ hk => by rw [mq_get_l] at hk; cases hk⟩
  · rw [mq_and_eq, Nat.beq_eq, Nat.beq_eq] at hb
    obtain ⟨rfl, e⟩ := hb
    have e : len = 466830 := e
    subst e
    refine ⟨trivial, mq_wl.leaf (by decide) _, fun _ => jn (0 : Nat), ?_, fun s hs => ?_⟩
    · congr 2
      congr 1
      funext j
      exact hf j
    · rw [mq_get_l]
      have e0 : mq_nv ρ (Sum.inl (0, 0)) = 0 := rfl
      rw [e0]
      refine ⟨⟨rfl, ?_, fun j hj => ?_, ?_⟩, Or.inl rfl⟩
      · rw [show (0 : Int).natAbs = 0 from rfl, jnl_zero]
      · rw [show (0 : Int).natAbs = 0 from rfl, jnl_zero] at hj; omega
      · rw [show (0 : Int).natAbs = 0 from rfl, jnl_zero]; omega
section MQN
variable {D pc : Nat} {M : mj_M} {Q : mj_R → Prop} {r1 r2 r3 r4 r5 : Nat} {ρ : Nat → Nat} {loc st : List mq_W} {n : Nat} {t : mq_Ht} {env : mq_V} {mloc : mj_L} {h : mj_H} {κ : mq_Kt} {ins : Instr}
theorem mq_s_nw {ci i : Nat} {fs : List mq_W} (hc : M.2.2.2.2.1 pc = some (.new i, ci, r2, r3, r4, r5)) (hr3 : r3 ≠ 1) (hf : mq_ws fs (mj_new ci) = true) (R : mq_R ρ M.2.2.1 loc n t env mloc h) (g0 : mq_x_nw ci fs loc st n t env κ = true) (G : mq_G D M Q ρ κ (pc + 3)) : mj_T D M pc mloc (st.map (mq_val ρ)) h Q := by
  obtain ⟨q, g1⟩ := mq_cond_of g0
  have q : n ≤ 1000 := Nat.ble_eq.mp q
  obtain ⟨f1, f2⟩ := mq_ws_of (ρ := ρ) hf
  rw [mq_hk_eq] at g1
  have hr := R.hr.push (c := some (.inr (.inl (ci, fs)))) (e := .inr (ci, mj_new ci)) (by omega) (Or.inl (by simp only [mj_slot, mj_new, List.length_map, List.length_range]; unfold mj_nc; split <;> omega)) (Or.inr ⟨trivial, _, rfl, f1, f2⟩)
  refine mj_T.step hc (by simp only [mj_kind]; rw [if_neg hr3]) ?_ (G _ ((Sum.inr (Sum.inl n)) :: st) _ _ _ _ _ (R.heap hr) g1)
  simp only [mj_step, R.hr.len]
  rfl
theorem mq_s_na {ty : Nat} {at_ : ArrayType} (hc : M.2.2.2.2.1 pc = some (.newarray at_, ty, r2, r3, r4, r5)) (hty : ty ≤ 2) (R : mq_R ρ M.2.2.1 loc n t env mloc h) (g0 : mq_x_na ty loc st n t env κ = true) (G : mq_G D M Q ρ κ (pc + 2)) : mj_T D M pc mloc (st.map (mq_val ρ)) h Q := by
  obtain ⟨w, s, len, e, rfl, e1, S, g1⟩ := mq_pI_of g0 R.sat
  obtain ⟨q, g2⟩ := mq_cond_of g1
  rw [mq_and_eq, mq_and_eq] at q
  have q1 : n ≤ 1000 := Nat.ble_eq.mp q.1
  have q2 : len ≤ 1000000 := Nat.ble_eq.mp q.2.1
  have q3 : len ≤ 6000 ∨ (n = 566 ∧ len ≤ 1000000) := by
    rcases mq_or_of q.2.2 with e | e
    · exact Or.inl (Nat.ble_eq.mp e)
    · exact Or.inr ⟨Nat.beq_eq.mp e, q2⟩
  obtain ⟨z1, z2⟩ := mq_jn_size q2
  rw [mq_hk_eq] at g2
  have hr := R.hr.push (c := mq_new ty len) (e := .inl (ty, len, fun _ => mj_df ty)) (by omega) q3 (Or.inr (mq_new_ok q2 (fun j => by rw [mq_dv_of (ρ := ρ), if_pos hty])))
  rw [List.map_cons, e1]
  refine mj_T.step hc rfl ?_ (G _ ((Sum.inr (Sum.inl n)) :: s) _ _ _ _ _ ((R.env S).heap hr) g2)
  simp only [mj_step, R.hr.len, z2]
  rw [if_pos ⟨z1, by omega, hty⟩]
  rfl
theorem mq_s_an {ty i : Nat} (hc : M.2.2.2.2.1 pc = some (.anewarray i, ty, r2, r3, r4, r5)) (hty : 3 ≤ ty) (R : mq_R ρ M.2.2.1 loc n t env mloc h) (g0 : mq_x_na ty loc st n t env κ = true) (G : mq_G D M Q ρ κ (pc + 3)) : mj_T D M pc mloc (st.map (mq_val ρ)) h Q := by
  obtain ⟨w, s, len, e, rfl, e1, S, g1⟩ := mq_pI_of g0 R.sat
  obtain ⟨q, g2⟩ := mq_cond_of g1
  rw [mq_and_eq, mq_and_eq] at q
  have q1 : n ≤ 1000 := Nat.ble_eq.mp q.1
  have q2 : len ≤ 1000000 := Nat.ble_eq.mp q.2.1
  have q3 : len ≤ 6000 ∨ (n = 566 ∧ len ≤ 1000000) := by
    rcases mq_or_of q.2.2 with e | e
    · exact Or.inl (Nat.ble_eq.mp e)
    · exact Or.inr ⟨Nat.beq_eq.mp e, q2⟩
  obtain ⟨z1, z2⟩ := mq_jn_size q2
  rw [mq_hk_eq] at g2
  have hr := R.hr.push (c := mq_new ty len) (e := .inl (ty, len, fun _ => .null)) (by omega) q3 (Or.inr (mq_new_ok q2 (fun j => by rw [mq_dv_3 hty]; rfl)))
  rw [List.map_cons, e1]
  refine mj_T.step hc rfl ?_ (G _ ((Sum.inr (Sum.inl n)) :: s) _ _ _ _ _ ((R.env S).heap hr) g2)
  simp only [mj_step, R.hr.len, z2]
  rw [if_pos ⟨z1, by omega⟩]
  rfl
/-- the rows of a new array of arrays -/
theorem mq_rows_hr {e0 : mj_E} {c0 : mq_C} {k : Nat} (hn : n ≤ 900) (hk : k ≤ 1000) (hr : mq_Hr ρ (n + 1) (mq_hset t n c0) (h ++ [e0])) : ∀ m, m ≤ 16 → mq_Hr ρ (n + 1 + m) (Nat.rec (motive := fun _ => mq_Ht) (mq_hset t n c0) (fun i t => mq_hset t (Nat.add (Nat.add n (nat_lit 1)) i) (some (.inl (1, k, (mq_dep k), Lean.RArray.leaf ((Sum.inr (Sum.inr (Sum.inl 0)))))))) m) (h ++ e0 :: mj_rows m k 0)
  | 0, _ => hr
  | m + 1, hm => by
    have ih := mq_rows_hr hn hk hr m (by omega)
    have h2 := ih.push (c := some (.inl (1, k, (mq_dep k), Lean.RArray.leaf ((Sum.inr (Sum.inr (Sum.inl 0))))))) (e := .inl (1, k, fun _ => .long 0)) (by omega) (Or.inl (show k ≤ 6000 by omega)) (Or.inr ⟨trivial, _, rfl, ⟨mq_wl.leaf (mq_dep_of (by omega)) _, by omega⟩, fun j _ _ => rfl⟩)
    have e1 : h ++ e0 :: mj_rows (m + 1) k 0 = (h ++ e0 :: mj_rows m k 0) ++ [.inl (1, k, fun _ => .long 0)] := by
      simp [mj_rows, List.range_succ]
    rw [e1]
    exact h2
theorem mq_outer (n m : Nat) : ∀ k, k ≤ 16 → mq_wl 4 16 (Nat.rec (motive := fun _ => mq_T mq_W) (Lean.RArray.leaf (Sum.inr (Sum.inr (Sum.inr (Sum.inr (Sum.inr (Sum.inr (Sum.inr (Sum.inr none))))))))) (fun i d => mq_set 4 d i ((Sum.inr (Sum.inl (Nat.add (Nat.add n (nat_lit 1)) i))))) k) ∧ ∀ j, j < 16 → mq_get (Nat.rec (motive := fun _ => mq_T mq_W) (Lean.RArray.leaf (Sum.inr (Sum.inr (Sum.inr (Sum.inr (Sum.inr (Sum.inr (Sum.inr (Sum.inr none))))))))) (fun i d => mq_set 4 d i ((Sum.inr (Sum.inl (Nat.add (Nat.add n (nat_lit 1)) i))))) k) j = if j < k then (Sum.inr (Sum.inl (n + 1 + j))) else (Sum.inr (Sum.inr (Sum.inr (Sum.inr (Sum.inr (Sum.inr (Sum.inr (Sum.inr none))))))))
  | 0, _ => ⟨mq_wl.leaf (by decide) _, fun j _ => rfl⟩
  | k + 1, hk => by
    obtain ⟨w, ih⟩ := mq_outer n m k (by omega)
    refine ⟨w.set (by omega) _, fun j hj => ?_⟩
    show mq_get (mq_set 4 (Nat.rec (motive := fun _ => mq_T mq_W) (Lean.RArray.leaf (Sum.inr (Sum.inr (Sum.inr (Sum.inr (Sum.inr (Sum.inr (Sum.inr (Sum.inr none))))))))) (fun i d => mq_set 4 d i ((Sum.inr (Sum.inl (Nat.add (Nat.add n (nat_lit 1)) i))))) k) k ((Sum.inr (Sum.inl (n + 1 + k))))) j = _
    rw [mq_get_set w _ (by omega) hj, ih j hj]
    by_cases e : j = k
    · rw [if_pos e, if_pos (by omega), e]
    · rw [if_neg e]
      by_cases e2 : j < k
      · rw [if_pos e2, if_pos (by omega)]
      · rw [if_neg e2, if_neg (by omega)]
theorem mq_s_mn {i dm : Nat} (hc : M.2.2.2.2.1 pc = some (.multianewarray i dm, r1, r2, r3, r4, r5)) (R : mq_R ρ M.2.2.1 loc n t env mloc h) (g0 : mq_x_mn loc st n t env κ = true) (G : mq_G D M Q ρ κ (pc + 4)) : mj_T D M pc mloc (st.map (mq_val ρ)) h Q := by
  obtain ⟨w, s, k, e, rfl, e1, S, g1⟩ := mq_pI_of g0 R.sat
  obtain ⟨w2, s, m, e', rfl, e2, S', g2⟩ := mq_pI_of g1 S
  obtain ⟨q, g3⟩ := mq_cond_of g2
  rw [mq_and_eq, mq_and_eq] at q
  have q1 : n ≤ 900 := Nat.ble_eq.mp q.1
  have q2 : m ≤ 16 := Nat.ble_eq.mp q.2.1
  have q3 : k ≤ 1000 := Nat.ble_eq.mp q.2.2
  obtain ⟨z1, z2⟩ := mq_jn_size (show k ≤ 1000000 by omega)
  obtain ⟨y1, y2⟩ := mq_jn_size (show m ≤ 1000000 by omega)
  have hr0 := R.hr.push (c := some (.inl (6, m, 4, (Nat.rec (motive := fun _ => mq_T mq_W) (Lean.RArray.leaf (Sum.inr (Sum.inr (Sum.inr (Sum.inr (Sum.inr (Sum.inr (Sum.inr (Sum.inr none))))))))) (fun i d => mq_set 4 d i ((Sum.inr (Sum.inl (Nat.add (Nat.add n (nat_lit 1)) i))))) m)))) (e := .inl (6, m, fun i => if i < m then .ref (n + 1 + i) else .null)) (by omega) (Or.inl (show m ≤ 6000 by omega)) (Or.inr ⟨trivial, _, rfl, ⟨⟨by omega, (mq_outer n m m q2).1.2⟩, by omega⟩, fun j hj _ => by
    rw [(mq_outer n m m q2).2 j (by omega), if_pos hj]
    rw [if_pos hj]
    rfl⟩)
  have hr := mq_rows_hr q1 q3 hr0 m q2
  rw [List.map_cons, List.map_cons, e1, e2]
  refine mj_T.step hc rfl ?_ (G _ ((Sum.inr (Sum.inl n)) :: s) _ _ _ _ _ ((R.env S').heap hr) g3)
  simp only [mj_step, R.hr.len, z2, y2]
  rw [if_pos ⟨y1, z1, by omega, by omega⟩]
  rfl
theorem mq_s_mx {i : Nat} (hc : M.2.2.2.2.1 pc = some (.invokestatic i, r1, r2, 2, r4, r5)) (R : mq_R ρ M.2.2.1 loc n t env mloc h) (g0 : mq_x_mx loc st n t env κ = true) (G : mq_G D M Q ρ κ (pc + 3)) : mj_T D M pc mloc (st.map (mq_val ρ)) h Q := by
  obtain ⟨w, s, y, e, rfl, e1, S, g1⟩ := mq_pI_of g0 R.sat
  obtain ⟨w2, s, x, e', rfl, e2, S', g2⟩ := mq_pI_of g1 S
  obtain ⟨q, g3⟩ := mq_cond_of g2
  have hcat := mq_cat_of (ρ := ρ) q
  rw [List.map_cons, List.map_cons, e1, e2]
  refine mj_T.prim hc rfl ?_ (G _ ((Sum.inl _) :: s) _ _ _ _ _ (R.env S') g3)
  simp only [mj_prim]
  rw [if_pos (by omega)]
  have e3 : (if jn (x : Nat) < jn (y : Nat) then jn (y : Nat) else jn (x : Nat)) = jn (cond (Nat.ble (Nat.add (mq_o32 x) (nat_lit 1)) (mq_o32 y)) y x : Nat) := by
    have h1 := mq_cnd .lt x y
    have h2 : mq_cmp .lt (mq_o32 x) (mq_o32 y) = Nat.ble (Nat.add (mq_o32 x) (nat_lit 1)) (mq_o32 y) := rfl
    rw [← h2, ← h1]
    show _ = jn (cond (decide (jn (x : Nat) < jn (y : Nat))) y x : Nat)
    by_cases hlt : jn (x : Nat) < jn (y : Nat)
    · rw [if_pos hlt, decide_eq_true hlt]; rfl
    · rw [if_neg hlt, decide_eq_false hlt]; rfl
  rw [e3]
  rfl
theorem mq_s_mi {i : Nat} (hc : M.2.2.2.2.1 pc = some (.invokestatic i, r1, r2, 3, r4, r5)) (R : mq_R ρ M.2.2.1 loc n t env mloc h) (g0 : mq_x_mi loc st n t env κ = true) (G : mq_G D M Q ρ κ (pc + 3)) : mj_T D M pc mloc (st.map (mq_val ρ)) h Q := by
  obtain ⟨w, s, y, e, rfl, e1, S, g1⟩ := mq_pI_of g0 R.sat
  obtain ⟨w2, s, x, e', rfl, e2, S', g2⟩ := mq_pI_of g1 S
  obtain ⟨q, g3⟩ := mq_cond_of g2
  have hcat := mq_cat_of (ρ := ρ) q
  rw [List.map_cons, List.map_cons, e1, e2]
  refine mj_T.prim hc rfl ?_ (G _ ((Sum.inl _) :: s) _ _ _ _ _ (R.env S') g3)
  simp only [mj_prim]
  rw [if_pos (by omega)]
  have e3 : (if jn (y : Nat) < jn (x : Nat) then jn (y : Nat) else jn (x : Nat)) = jn (cond (Nat.ble (Nat.add (mq_o32 y) (nat_lit 1)) (mq_o32 x)) y x : Nat) := by
    have h1 := mq_cnd .lt y x
    have h2 : mq_cmp .lt (mq_o32 y) (mq_o32 x) = Nat.ble (Nat.add (mq_o32 y) (nat_lit 1)) (mq_o32 x) := rfl
    rw [← h2, ← h1]
    show _ = jn (cond (decide (jn (y : Nat) < jn (x : Nat))) y x : Nat)
    by_cases hlt : jn (y : Nat) < jn (x : Nat)
    · rw [if_pos hlt, decide_eq_true hlt]; rfl
    · rw [if_neg hlt, decide_eq_false hlt]; rfl
  rw [e3]
  rfl
theorem mq_s_ob {i : Nat} (hc : M.2.2.2.2.1 pc = some (.invokespecial i, r1, r2, 5, r4, r5)) (R : mq_R ρ M.2.2.1 loc n t env mloc h) (g0 : mq_x_ob loc st n t env κ = true) (G : mq_G D M Q ρ κ (pc + 3)) : mj_T D M pc mloc (st.map (mq_val ρ)) h Q := by
  obtain ⟨w, s, a, e, rfl, e1, S, g1⟩ := mq_pA_of g0 R.sat
  obtain ⟨q, g2⟩ := mq_cond_of g1
  have hcat := mq_cat_of (ρ := ρ) q
  rw [List.map_cons, e1]
  refine mj_T.prim hc rfl ?_ (G _ s _ _ _ _ _ (R.env S) g2)
  simp only [mj_prim]
  rw [if_pos (by omega)]
theorem mq_cpy_wl {d0 : mq_T mq_W} {dep sp dp len : Nat} {d1 : mq_T mq_W} (hd : mq_wl dep len d1) : ∀ (cnt : Nat), dp + cnt ≤ len → mq_wl dep len (mq_cpy d0 dep sp dp cnt d1)
  | 0, _ => hd
  | cnt + 1, h1 => (mq_cpy_wl hd cnt (by omega)).set (show dp + cnt < len by omega) _
theorem mq_cpy_get {d0 : mq_T mq_W} {dep sp dp len : Nat} {d1 : mq_T mq_W} (hd : mq_wl dep len d1) : ∀ (cnt : Nat), dp + cnt ≤ len → ∀ j, j < len → mq_get (mq_cpy d0 dep sp dp cnt d1) j = if dp ≤ j ∧ j < dp + cnt then mq_get d0 (sp + (j - dp)) else mq_get d1 j
  | 0, _, j, hj => by
    rw [if_neg (by omega)]
    rfl
  | cnt + 1, h1, j, hj => by
    show mq_get (mq_set dep (mq_cpy d0 dep sp dp cnt d1) (dp + cnt) (mq_get d0 (sp + cnt))) j = _
    rw [mq_get_set (mq_cpy_wl hd cnt (by omega)) _ (by omega) hj, mq_cpy_get hd cnt (by omega) j hj]
    by_cases e : j = dp + cnt
    · rw [if_pos e, if_pos (by omega)]
      congr 2
      omega
    · rw [if_neg e]
      by_cases e2 : dp ≤ j ∧ j < dp + cnt
      · rw [if_pos e2, if_pos (by omega)]
      · rw [if_neg e2, if_neg (by omega)]
theorem mq_s_cp {i : Nat} (hc : M.2.2.2.2.1 pc = some (.invokestatic i, r1, r2, 4, r4, r5)) (R : mq_R ρ M.2.2.1 loc n t env mloc h) (g0 : mq_x_cp loc st n t env κ = true) (G : mq_G D M Q ρ κ (pc + 3)) : mj_T D M pc mloc (st.map (mq_val ρ)) h Q := by
  obtain ⟨w, s, cnt, e, rfl, e1, S, g1⟩ := mq_pI_of g0 R.sat
  obtain ⟨w2, s, dp, e', rfl, e2, S', g2⟩ := mq_pI_of g1 S
  obtain ⟨w3, s, a1, e'', rfl, e3, S'', g3⟩ := mq_pA_of g2 S'
  obtain ⟨w4, s, sp, e3', rfl, e4, S3, g4⟩ := mq_pI_of g3 S''
  obtain ⟨w5, s, a0, e4', rfl, e5, S4, g5⟩ := mq_pA_of g4 S3
  obtain ⟨ty0, len0, dep0, d0, f0, h01, h02, h03, h04, h05, g6⟩ := mq_cA_of g5 R.hr
  obtain ⟨ty1, len1, dep1, d1, f1, h11, h12, h13, h14, h15, g7⟩ := mq_cA_of g6 R.hr
  obtain ⟨q, g8⟩ := mq_cond_of g7
  obtain ⟨qa, g9⟩ := mq_cond_of g8
  simp only [mq_and_eq, Nat.beq_eq] at q
  obtain ⟨⟨q1, q2, q3⟩, ⟨q4, q5⟩, ⟨q6, q7⟩, q8⟩ := q
  subst q2
  have hcat := mq_cat_of (ρ := ρ) q1
  have q3 : ty0 ≤ 1 := Nat.ble_eq.mp q3
  have q4 : sp + cnt ≤ len0 := Nat.ble_eq.mp q4
  have q5 : dp + cnt ≤ len1 := Nat.ble_eq.mp q5
  have q6 : sp ≤ 1000000 := Nat.ble_eq.mp q6
  have q7 : dp ≤ 1000000 := Nat.ble_eq.mp q7
  have q8 : cnt ≤ 1000000 := Nat.ble_eq.mp q8
  have qa := mq_all_of qa
  have qa : ∀ m, m < cnt → mq_kd ty0 (mq_get d0 (sp + m)) = true := qa
  obtain ⟨z1, z2⟩ := mq_jn_size q6
  obtain ⟨y1, y2⟩ := mq_jn_size q7
  obtain ⟨x1, x2⟩ := mq_jn_size q8
  have hcp : mj_cpok ty0 f0 sp cnt = true := by
    unfold mj_cpok
    rw [List.all_eq_true]
    intro m hm
    rw [List.mem_range] at hm
    have k1 := qa m hm
    have k2 := h04 (sp + m) (by omega) (mq_kd_kn k1)
    rw [k2]
    have : ty0 = 0 ∨ ty0 = 1 := by omega
    rcases this with e | e
    · subst e
      obtain ⟨x, hx⟩ := mq_kd0 (ρ := ρ) k1
      rw [hx]
      rfl
    · subst e
      obtain ⟨x, hx⟩ := mq_kd1 (ρ := ρ) k1
      rw [hx]
      rfl
  have hcr : mq_cr ρ h (some (.inl (ty0, len1, dep1, (mq_cpy d0 dep1 sp dp cnt d1)))) (.inl (ty0, len1, va_cpy f0 f1 sp dp cnt)) := by
    refine ⟨_, rfl, ⟨mq_cpy_wl h13.1 cnt q5, h13.2⟩, fun j hj hk => ?_⟩
    rw [mq_cpy_get h13.1 cnt q5 j hj] at hk ⊢
    unfold va_cpy
    by_cases c : dp ≤ j ∧ j < dp + cnt
    · rw [if_pos c] at hk ⊢
      rw [if_pos c]
      exact h04 _ (by omega) hk
    · rw [if_neg c] at hk ⊢
      rw [if_neg c]
      exact h14 _ hj hk
  rw [List.map_cons, List.map_cons, List.map_cons, List.map_cons, List.map_cons, e1, e2, e3, e4, e5]
  refine mj_T.prim hc rfl ?_ (G _ s _ _ _ _ _ ((R.env S4).heap (R.hr.set h15 h12 (by rw [h11]; trivial) mq_pl_arr hcr rfl)) g9)
  simp only [mj_prim, h02, h12, z2, y2, x2]
  rw [if_pos ⟨by omega, by first | trivial | rfl, by omega, z1, y1, x1, q4, q5, hcp⟩]
end MQN
