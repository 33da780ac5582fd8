/-! The fast machine's methods are the small machine's. -/
def mq_ckL (M : mj_M) (ps : List Nat) : List mq_K → List Nat → Bool
  | [], [] => true
  | k :: ls, p :: qs => mq_ckK M ps k p && mq_ckL M ps ls qs
  | _, _ => false
theorem mq_ckL_of {M : mj_M} {ps : List Nat} : ∀ {ls : List mq_K} {qs : List Nat}, mq_ckL M ps ls qs = true → ∀ l pc, qs[l]? = some pc → mq_ckK M ps (mq_nth (.z 0) ls l) pc = true
  | [], [], _, l, pc, h => by simp at h
  | [], _ :: _, h, _, _, _ => by cases h
  | _ :: _, [], h, _, _, _ => by cases h
  | k :: ls, p :: qs, h, l, pc, hl => by
    unfold mq_ckL at h
    rw [Bool.and_eq_true] at h
    cases l with
    | zero =>
      have : p = pc := by simpa using hl
      subst this
      exact h.1
    | succ l =>
      rw [mq_nth_succ]
      exact mq_ckL_of h.2 l pc (by simpa using hl)
/-- a method of the fast machine against one of the small machine -/
def mq_ckM (M : mj_M) (ps : List Nat) (m : mq_Md) : Bool := match m with
  | .m nl ls => decide (M.2.2.1 = nl) && (decide (ps[0]? = some 0) && mq_ckL M ps ls ps)
theorem mq_loop_ok {D : Nat} {M : mj_M} {Q : mj_R → Prop} {ρ : Nat → Nat} {ps : List Nat} {ls : List mq_K} {ks : mq_J} {ca : mq_Ca} {kr : mq_Kr} {kx : mq_Kx} (hca : ∀ j as n t env kr kx h, ca j as n t env kr kx = true → mq_Sat ρ env → mq_Hr ρ n t h → mj_Ok D j (as.map (mq_val ρ)) h (mq_Po ρ kr kx))
    (hks : ∀ p, mq_G D M Q ρ (ks p) p) (hQ : ∀ r, mq_Po ρ kr kx r → Q r) (hls : mq_ckL M ps ls ps = true) : ∀ (F l pc : Nat), ps[l]? = some pc → mq_G D M Q ρ (mq_loop ls ks ca kr kx F l) pc
  | 0, l, pc, _ => fun _ _ _ _ _ _ _ _ g => by cases g
  | F + 1, l, pc, hl => mq_run_ok hca (mq_loop_ok hca hks hQ hls F) hks hQ _ pc (mq_ckL_of hls l pc hl)
theorem mq_l0_cat {ρ : Nat → Nat} {w : mq_W} : (mq_val ρ w).category = cond (or (mq_kd 1 w) (mq_kd 3 w)) 2 1 := by
  cases w <;> rfl
theorem mq_l0_of {ρ : Nat → Nat} : ∀ (as : List mq_W) (nl : Nat), mq_len (mq_l0 as) ≤ nl → (mj_loc0 nl (as.map (mq_val ρ))).length = nl ∧ ∀ i, mq_kn (mq_nth .U (mq_l0 as) i) = true → (mj_loc0 nl (as.map (mq_val ρ)))[i]? = some (some (mq_val ρ (mq_nth .U (mq_l0 as) i)))
  | [], nl, _ => ⟨by simp [mj_loc0], fun i hi => by cases hi⟩
  | w :: as, nl, h => by
    have hcat := mq_l0_cat (ρ := ρ) (w := w)
    have e0 : mq_l0 (w :: as) = cond (or (mq_kd 1 w) (mq_kd 3 w)) (w :: .U :: mq_l0 as) (w :: mq_l0 as) := rfl
    rw [e0] at h ⊢
    rw [List.map_cons]
    unfold mj_loc0
    cases hb : (mq_kd 1 w || mq_kd 3 w)
    · rw [hb] at hcat h
      have hcat : (mq_val ρ w).category = 1 := hcat
      have h : mq_len (mq_l0 as) + 1 ≤ nl := h
      obtain ⟨h1, h2⟩ := mq_l0_of (ρ := ρ) as (nl - 1) (by omega)
      rw [if_neg (by omega)]
      refine ⟨by rw [List.length_cons, h1]; omega, fun i hi => ?_⟩
      cases i with
      | zero => rfl
      | succ i => exact h2 i hi
    · rw [hb] at hcat h
      have hcat : (mq_val ρ w).category = 2 := hcat
      have h : mq_len (mq_l0 as) + 1 + 1 ≤ nl := h
      obtain ⟨h1, h2⟩ := mq_l0_of (ρ := ρ) as (nl - 2) (by omega)
      rw [if_pos hcat]
      refine ⟨by rw [List.length_cons, List.length_cons, h1]; omega, fun i hi => ?_⟩
      match i with
      | 0 => rfl
      | 1 => cases hi
      | i + 2 => exact h2 i hi
/-- a table whose every method was checked, or holds nothing -/
def mq_okP (P : mq_T mq_Md) : Prop := ∀ j, j < 1024 → mq_get P j = .m 0 [] ∨ ∃ M ps, mj_P[j]? = some M ∧ mq_ckM M ps (mq_get P j) = true
theorem mq_go_ok {P : mq_T mq_Md} (hP : mq_okP P) {ρ : Nat → Nat} : ∀ (D j : Nat) (as : List mq_W) (n : Nat) (t : mq_Ht) (env : mq_V) (kr : mq_Kr) (kx : mq_Kx) (h : mj_H), mq_go P D j as n t env kr kx = true → mq_Sat ρ env → mq_Hr ρ n t h → mj_Ok D j (as.map (mq_val ρ)) h (mq_Po ρ kr kx)
  | 0, j, as, n, t, env, kr, kx, h, g, _, _ => by cases g
  | D + 1, j, as, n, t, env, kr, kx, h, g, hs, hr => by
    have g : (match mq_get P j with
      | .m nl ls => (fun loc => (Bool.rec (motive := fun _ => Bool) false (mq_loop ls (fun _ _ _ _ _ _ => false) (mq_go P D) kr kx (nat_lit 1000000) 0 loc [] n t env) (mq_and (Nat.ble j (nat_lit 1023)) (Nat.ble (mq_len loc) nl)))) (mq_l0 as)) = true := g
    cases hm : mq_get P j with
    | m nl ls =>
      rw [hm] at g
      obtain ⟨q, g⟩ := mq_cond_of g
      rw [mq_and_eq] at q
      have q1 : j ≤ 1023 := Nat.ble_eq.mp q.1
      have q2 : mq_len (mq_l0 as) ≤ nl := Nat.ble_eq.mp q.2
      rcases hP j (by omega) with h1 | ⟨M, ps, h1, h2⟩
      · rw [hm] at h1
        injection h1 with h1 h2
        subst h2
        cases g
      · rw [hm] at h2
        unfold mq_ckM at h2
        rw [Bool.and_eq_true, Bool.and_eq_true, decide_eq_true_eq, decide_eq_true_eq] at h2
        obtain ⟨h2, h3, h4⟩ := h2
        obtain ⟨k1, k2⟩ := mq_l0_of (ρ := ρ) as nl q2
        refine mj_Ok.of h1 (by rw [h2]) (by rw [h2]; exact k1) ?_
        exact mq_loop_ok (mq_go_ok hP D) (fun p _ _ _ _ _ _ _ _ g => by cases g) (fun r hr => hr) h4 1000000 0 0 h3 _ [] _ _ _ _ _ ⟨hs, k1.trans h2.symm, k2, hr⟩ g
