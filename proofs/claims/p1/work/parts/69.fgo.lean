/-! The fast machine's methods are the small machine's. -/
def mq_ckL (M : mj_M) (ps : List Nat) : List mq_K → List Nat → Bool
  | [], [] => true
  | k :: ls, p :: qs => mq_ckK M ps k p && mq_ckL M ps ls qs
  | _, _ => false
theorem mq_ckL_of {M : mj_M} {ps : List Nat} : ∀ {ls : List mq_K} {qs : List Nat}, mq_ckL M ps ls qs = true → ∀ l pc, qs[l]? = some pc → mq_ckK M ps (mq_nth [] ls l) pc = true
  | [], [], _, l, pc, h => by simp at h
  | [], _ :: _, h, _, _, _ => by cases h
  | _ :: _, [], h, _, _, _ => by cases h
  | k :: ls, p :: qs, h, l, pc, hl => by
    unfold mq_ckL at h
    rw [Bool.and_eq_true] at h
    cases l with
    | zero =>
      have : p = pc := by simpa using hl
      subst this
      exact h.1
    | succ l =>
      rw [mq_nth_succ]
      exact mq_ckL_of h.2 l pc (by simpa using hl)
theorem mq_nth_map : ∀ (ds : List mq_K) (l : Nat), mq_nth mq_none (ds.map mq_run) l = mq_run (mq_nth [] ds l)
  | [], l => rfl
  | k :: ds, 0 => rfl
  | k :: ds, l + 1 => by
    rw [List.map_cons, mq_nth_succ, mq_nth_succ]
    exact mq_nth_map ds l
theorem mq_loop_ok {D : Nat} {M : mj_M} {Q : mj_R → Prop} {ρ : Nat → Nat} {ps : List Nat} {ds : List mq_K} {ks : mq_J} {ca : mq_Ca} {kr : mq_Kr} {kx : mq_Kx} (hca : ∀ j as n t env kr kx h, ca j as n t env kr kx = true → mq_Sat ρ env → mq_Hr ρ n t h → mj_Ok D j (as.map (mq_val ρ)) h (mq_Po ρ kr kx))
    (hks : ∀ p, mq_G D M Q ρ (ks p) p) (hQ : ∀ r, mq_Po ρ kr kx r → Q r) (hls : mq_ckL M ps ds ps = true) : ∀ (F l pc : Nat), ps[l]? = some pc → mq_G D M Q ρ (mq_loop (ds.map mq_run) ks ca kr kx F l) pc
  | 0, l, pc, _ => fun _ _ _ _ _ _ _ _ g => by cases g
  | F + 1, l, pc, hl => by
    have e : mq_loop (ds.map mq_run) ks ca kr kx (F + 1) l = mq_nth mq_none (ds.map mq_run) l ks (mq_loop (ds.map mq_run) ks ca kr kx F) ca kr kx := rfl
    rw [e, mq_nth_map]
    exact mq_run_ok hca (mq_loop_ok hca hks hQ hls F) hks hQ _ pc (mq_ckL_of hls l pc hl)
theorem mq_l0_cat {ρ : Nat → Nat} {w : mq_W} : (mq_val ρ w).category = cond (or (mq_kd 1 w) (mq_kd 3 w)) 2 1 := by
  rcases mq_Wd w with ⟨n, rfl⟩ | ⟨a, rfl⟩ | ⟨n, rfl⟩ | ⟨i, m, c, rfl⟩ | ⟨i, rfl⟩ | ⟨i, lo, l, rfl⟩ | ⟨x, rfl⟩ | ⟨x, rfl⟩ | rfl | rfl | rfl | rfl | rfl <;> rfl
theorem mq_l0_of {ρ : Nat → Nat} : ∀ (as : List mq_W) (nl : Nat), mq_len (mq_l0 as) ≤ nl → (mj_loc0 nl (as.map (mq_val ρ))).length = nl ∧ ∀ i, mq_kn (mq_nth mq_U (mq_l0 as) i) = true → (mj_loc0 nl (as.map (mq_val ρ)))[i]? = some (some (mq_val ρ (mq_nth mq_U (mq_l0 as) i)))
  | [], nl, _ => ⟨by simp [mj_loc0], fun i hi => by cases hi⟩
  | w :: as, nl, h => by
    have hcat := mq_l0_cat (ρ := ρ) (w := w)
    have e0 : mq_l0 (w :: as) = cond (or (mq_kd 1 w) (mq_kd 3 w)) (w :: mq_U :: mq_l0 as) (w :: mq_l0 as) := rfl
    rw [e0] at h ⊢
    rw [List.map_cons]
    unfold mj_loc0
    cases hb : (mq_kd 1 w || mq_kd 3 w)
    · rw [hb] at hcat h
      have hcat : (mq_val ρ w).category = 1 := hcat
      have h : mq_len (mq_l0 as) + 1 ≤ nl := h
      obtain ⟨h1, h2⟩ := mq_l0_of (ρ := ρ) as (nl - 1) (by omega)
      rw [if_neg (by omega)]
      refine ⟨by rw [List.length_cons, h1]; omega, fun i hi => ?_⟩
      cases i with
      | zero => rfl
      | succ i => exact h2 i hi
    · rw [hb] at hcat h
      have hcat : (mq_val ρ w).category = 2 := hcat
      have h : mq_len (mq_l0 as) + 1 + 1 ≤ nl := h
      obtain ⟨h1, h2⟩ := mq_l0_of (ρ := ρ) as (nl - 2) (by omega)
      rw [if_pos hcat]
      refine ⟨by rw [List.length_cons, List.length_cons, h1]; omega, fun i hi => ?_⟩
      match i with
      | 0 => rfl
      | 1 => cases hi
      | i + 2 => exact h2 i hi
/-- a method that is done at once -/
def mq_okO (j na : Nat) (f : mq_Oc) : Prop := ∀ (ρ : Nat → Nat) (as : List mq_W) (n : Nat) (t : mq_Ht) (env : mq_V) (kr : mq_Kr) (kx : mq_Kx) (h : mj_H), as.length = na → f as n t env kr kx = true → mq_Sat ρ env → mq_Hr ρ n t h → mj_Ok 8 j (as.map (mq_val ρ)) h (mq_Po ρ kr kx)
/-- a method of the table is checked, or holds nothing -/
def mq_okM (j : Nat) (m : mq_Md) : Prop := match m with
  | .inl (nl, ls) => ls = [] ∨ ∃ M ps ds, mj_P[j]? = some M ∧ M.2.2.1 = nl ∧ ps[0]? = some 0 ∧ ls = ds.map mq_run ∧ mq_ckL M ps ds ps = true
  | .inr (na, f) => mq_okO j na f
def mq_okP (P : mq_T mq_Md) : Prop := ∀ j, mq_okM j (mq_get P j)
theorem mq_go_ok {P : mq_T mq_Md} (hP : mq_okP P) {ρ : Nat → Nat} : ∀ (D j : Nat) (as : List mq_W) (n : Nat) (t : mq_Ht) (env : mq_V) (kr : mq_Kr) (kx : mq_Kx) (h : mj_H), mq_go P D j as n t env kr kx = true → mq_Sat ρ env → mq_Hr ρ n t h → mj_Ok (D + 8) j (as.map (mq_val ρ)) h (mq_Po ρ kr kx)
  | 0, j, as, n, t, env, kr, kx, h, g, _, _ => by cases g
  | D + 1, j, as, n, t, env, kr, kx, h, g, hs, hr => by
    have g : mq_go2 (mq_get P j) (mq_go P D) j as n t env kr kx = true := g
    have hp := hP j
    match hm : mq_get P j, hp, g with
    | .inr (na, f), hp, g =>
      have g : Bool.rec (motive := fun _ => Bool) false (f as n t env kr kx) (Nat.beq (mq_len as) na) = true := g
      obtain ⟨q, g⟩ := mq_cond_of g
      have q := Nat.beq_eq.mp q
      rw [mq_len_eq] at q
      exact (hp ρ as n t env kr kx h q g hs hr).up (by omega)
    | .inl (nl, ls), hp, g =>
      have g : mq_go1 (mq_go P D) j nl ls as n t env kr kx = true := g
      unfold mq_go1 at g
      obtain ⟨q, g⟩ := mq_cond_of g
      rw [mq_and_eq] at q
      have q2 : mq_len (mq_l0 as) ≤ nl := Nat.ble_eq.mp q.2
      rcases hp with h1 | ⟨M, ps, ds, h1, h2, h3, h4, h5⟩
      · subst h1
        cases g
      · subst h4
        obtain ⟨k1, k2⟩ := mq_l0_of (ρ := ρ) as nl q2
        refine (mj_Ok.of (D := D + 8) h1 (by rw [h2]) (by rw [h2]; exact k1) ?_).up (by omega)
        exact mq_loop_ok (mq_go_ok hP D) (fun p _ _ _ _ _ _ _ _ g => by cases g) (fun r hr => hr) h5 1000000 0 0 h3 _ [] _ _ _ _ _ ⟨hs, k1.trans h2.symm, k2, hr⟩ g
