/-! The fast machine's code is the small machine's: runs, loops, calls. -/
noncomputable def mq_ov (ρ : Nat → Nat) (w : mq_W) : Option Value := match w with
  | (Sum.inr (Sum.inr (Sum.inr (Sum.inr (Sum.inr (Sum.inr (Sum.inr (Sum.inr (some none))))))))) => none
  | w => some (mq_val ρ w)
/-- what is left to do holds of what a method ends with -/
def mq_Po (ρ : Nat → Nat) (kr : mq_Kr) (kx : mq_Kx) (r : mj_R) : Prop := match r with
  | (.inl vo, h) => ∃ w n t e, vo = mq_ov ρ w ∧ mq_Hr ρ n t h ∧ mq_Sat ρ e ∧ kr w n t e = true
  | (.inr i, h) => ∃ n t e, mq_Hr ρ n t h ∧ mq_Sat ρ e ∧ kx i n t e = true
def mq_at (ps : List Nat) (l pc : Nat) : Bool := decide (ps[l]? = some pc)
def mq_ckh (M : mj_M) (ps : List Nat) (pc : Nat) (x : Nat × Nat × Nat) : Bool := match x with
  | (i, kk, l) => (match mj_find M.2.2.2.2.2.1 pc i with
    | some (kk', nx) => decide (kk' = kk) && (decide (kk < M.2.2.1) && mq_at ps l nx)
    | none => false)
def mq_emp {α : Type} (l : List α) : Bool := match l with
  | [] => true
  | _ => false
def mq_ckr (kd : Nat) (ins : Instr) (ret : Option FieldType) : Bool := match ins with
  | .ireturn => (match ret with
    | some .int => decide (kd = 0)
    | some .boolean => decide (kd = 4)
    | _ => false)
  | .lreturn => (match ret with
    | some .long => decide (kd = 1)
    | _ => false)
  | .freturn => (match ret with
    | some .float => decide (kd = 5)
    | _ => false)
  | .dreturn => (match ret with
    | some .double => decide (kd = 3)
    | _ => false)
  | .areturn => (match ret with
    | some (.object _) => decide (kd = 2)
    | some (.array _) => decide (kd = 2)
    | _ => false)
  | .return_ => (match ret with
    | none => decide (kd = 6)
    | _ => false)
  | _ => false
def mq_cky (ins : Instr) (na rc r5 : Nat) : Bool := match ins with
  | .invokestatic _ => true
  | .invokevirtual _ => decide (rc = r5 + 2) && decide (0 < na)
  | .invokespecial _ => decide (0 < rc) && decide (0 < na)
  | _ => false
def mq_ckK (M : mj_M) (ps : List Nat) : mq_K → Nat → Bool
  | [], _ => false
  | .inl x :: k, pc => (match M.2.2.2.2.1 pc with
    | some (ins, r1, r2, r3, _, _) => (match mq_ckk M.2.2.1 x ins r1 r2 r3 with
      | some len => mq_ckK M ps k (pc + len)
      | none => false)
    | none => false)
  | .inr (.inr (.inr (.inr (.inr (.inl l))))) :: _, pc => mq_at ps l pc || (match M.2.2.2.2.1 pc with
    | some (.goto _, r1, _, _, _, _) => mq_at ps l r1
    | _ => false)
  | .inr (.inl (c, l)) :: k, pc => (match M.2.2.2.2.1 pc with
    | some (.ifCond c' _, r1, _, _, _, _) => decide (c' = c) && (mq_at ps l r1 && mq_ckK M ps k (pc + 3))
    | _ => false)
  | .inr (.inr (.inl (c, l))) :: k, pc => (match M.2.2.2.2.1 pc with
    | some (.if_icmp c' _, r1, _, _, _, _) => decide (c' = c) && (mq_at ps l r1 && mq_ckK M ps k (pc + 3))
    | _ => false)
  | .inr (.inr (.inr (.inl (c, l)))) :: k, pc => (match M.2.2.2.2.1 pc with
    | some (.lcmp, _, _, _, _, _) => (match M.2.2.2.2.1 (pc + 1) with
      | some (.ifCond c' _, r1, _, _, _, _) => decide (c' = c) && (mq_at ps l r1 && mq_ckK M ps k (pc + 1 + 3))
      | _ => false)
    | _ => false)
  | .inr (.inr (.inr (.inr (.inr (.inr (.inl (ls, ld))))))) :: _, pc => (match M.2.2.2.2.1 pc with
    | some (.tableswitch d low hi offs, _, _, _, _, _) => (decide (low = 0) && (decide (hi = (ls.length : Int) - 1) && (decide (0 ≤ (pc : Int) + d) && (mq_at ps ld ((pc : Int) + d).toNat && (decide (ls.length ≤ 1000) && (List.range ls.length).all fun i => (match offs[i]? with
      | some off => decide (0 ≤ (pc : Int) + off) && mq_at ps (ls.getD i ld) ((pc : Int) + off).toNat
      | none => false))))))
    | _ => false)
  | .inr (.inr (.inr (.inr (.inl (j, na, rc, hs))))) :: k, pc => (match M.2.2.2.2.1 pc with
    | some (ins, r1, r2, r3, _, r5) => decide (r3 ≤ 1) && (decide (r1 = j) && (decide (r2 = na) && (mq_cky ins na rc r5 && ((match hs with
      | [] => mq_emp M.2.2.2.2.2.1
      | _ => hs.all (mq_ckh M ps pc)) && mq_ckK M ps k (pc + 3)))))
    | none => false)
  | .inr (.inr (.inr (.inr (.inr (.inr (.inr (.inl kd))))))) :: _, pc => (match M.2.2.2.2.1 pc with
    | some (ins, _, _, _, _, _) => mq_ckr kd ins M.2.2.2.1
    | none => false)
  | .inr (.inr (.inr (.inr (.inr (.inr (.inr (.inr (.inl i)))))))) :: _, pc => (match M.2.2.2.2.1 pc with
    | some (.new _, r1, _, r3, _, _) => decide (r1 = i) && (decide (r3 = 1) && mq_emp M.2.2.2.2.2.1)
    | _ => false)
  | .inr (.inr (.inr (.inr (.inr (.inr (.inr (.inr (.inr p)))))))) :: _, pc => decide (p = pc)
theorem mq_rev_of : ∀ {st : List mq_W} {m : Nat} {as : List mq_W} {k : List mq_W → List mq_W → Bool}, mq_rev st m as k = true → ∃ l s, st = l ++ s ∧ l.length = m ∧ k (l.reverse ++ as) s = true
  | [], 0, as, k, h => ⟨[], [], rfl, rfl, h⟩
  | [], m + 1, as, k, h => by cases h
  | w :: s, 0, as, k, h => ⟨[], w :: s, rfl, rfl, h⟩
  | w :: s, m + 1, as, k, h => by
    have h' : mq_rev s m (w :: as) k = true := h
    obtain ⟨l, s', h1, h2, h3⟩ := mq_rev_of h'
    refine ⟨w :: l, s', by rw [h1]; rfl, by simp [h2], ?_⟩
    rw [List.reverse_cons, List.append_assoc]
    exact h3
theorem mq_hs_of {i : Nat} {k : Nat → Nat → Bool} : ∀ {hs : List (Nat × Nat × Nat)}, mq_hs hs i k = true → ∃ kk l, (i, kk, l) ∈ hs ∧ k kk l = true
  | [], h => by cases h
  | (j, kk, l) :: hs, h => by
    have h' : cond (Nat.beq j i) (k kk l) (mq_hs hs i k) = true := h
    cases hb : Nat.beq j i
    · rw [hb] at h'
      obtain ⟨kk', l', h1, h2⟩ := mq_hs_of h'
      exact ⟨kk', l', List.mem_cons_of_mem _ h1, h2⟩
    · rw [hb] at h'
      have := Nat.beq_eq.mp hb
      subst this
      exact ⟨kk, l, List.mem_cons_self, h'⟩
theorem mq_emp_of {α : Type} {l : List α} (h : mq_emp l = true) : l = [] := by
  cases l
  · rfl
  · cases h
section MQR
variable {D pc : Nat} {M : mj_M} {Q : mj_R → Prop} {ρ : Nat → Nat} {loc st : List mq_W} {n : Nat} {t : mq_Ht} {env : mq_V} {mloc : mj_L} {h : mj_H}
theorem mq_recv_of {ins : Instr} {na rc r5 : Nat} {l s : List mq_W} (hl : l.length = na) (hr : mq_Hr ρ n t h) (hc : mq_cky ins na rc r5 = true) (h1 : mq_rcv rc l.reverse t = true) : mj_recv ins na r5 ((l ++ s).map (mq_val ρ)) h = true := by
  have key : 0 < na → 0 < rc → ∃ a s', ((l ++ s).map (mq_val ρ)).drop (na - 1) = .ref a :: s' ∧ (∀ m, rc = m + 2 → ∃ fs, h[a]? = some (.inr (m, fs))) := by
    intro hna hrc
    obtain ⟨l0, w, e⟩ : ∃ l0 w, l = l0 ++ [w] := by
      rcases List.eq_nil_or_concat l with q | ⟨l0, w, q⟩
      · subst q; simp at hl; omega
      · exact ⟨l0, w, by rw [q, List.concat_eq_append]⟩
    subst e
    rw [List.reverse_append] at h1
    simp only [List.length_append, List.length_singleton] at hl
    cases rc with
    | zero => omega
    | succ rc =>
      have h1' : (match ([w].reverse ++ l0.reverse : List mq_W) with
        | (Sum.inr (Sum.inl a)) :: _ => Nat.rec (motive := fun _ => Bool) true (fun m _ => mq_cC t a fun ci => Nat.beq ci m) rc
        | _ => false) = true := h1
      match w, h1' with
      | .inr (.inl a), h1' =>
        refine ⟨a, s.map (mq_val ρ), ?_, fun m hm => ?_⟩
        · rw [List.map_append, List.map_append, List.append_assoc, List.drop_append_of_le_length (by simp; omega)]
          rw [List.drop_eq_nil_of_le (by simp; omega)]
          rfl
        · have : rc = m + 1 := by omega
          subst this
          have h2 : mq_cC t a (fun ci => Nat.beq ci m) = true := h1'
          obtain ⟨ci, fs, k2, k5, k6⟩ := mq_cC_of h2 hr
          have := Nat.beq_eq.mp k6
          subst this
          exact ⟨_, k2⟩
      | .inl _, h1' => cases h1'
      | .inr (.inr _), h1' => cases h1'
  unfold mq_cky at hc
  split at hc
  · rfl
  · rw [Bool.and_eq_true, decide_eq_true_eq, decide_eq_true_eq] at hc
    obtain ⟨a, s', h2, h3⟩ := key hc.2 (by omega)
    obtain ⟨fs, h4⟩ := h3 r5 hc.1
    unfold mj_recv
    simp only
    rw [h2]
    cases na with
    | zero => omega
    | succ na =>
      simp [h4]
  · rw [Bool.and_eq_true, decide_eq_true_eq, decide_eq_true_eq] at hc
    obtain ⟨a, s', h2, h3⟩ := key hc.2 hc.1
    unfold mj_recv
    simp only
    rw [h2]
    cases na with
    | zero => omega
    | succ na => rfl
  · cases hc
theorem mq_at_of {ps : List Nat} {l pc : Nat} (h : mq_at ps l pc = true) : ps[l]? = some pc := of_decide_eq_true h
theorem mq_psh_map {w : mq_W} {s : List mq_W} : (mq_psh w s).map (mq_val ρ) = (mq_ov ρ w).toList ++ s.map (mq_val ρ) := by
  rcases mq_Wd w with ⟨n, rfl⟩ | ⟨a, rfl⟩ | ⟨n, rfl⟩ | ⟨i, m, c, rfl⟩ | ⟨i, rfl⟩ | ⟨i, lo, l, rfl⟩ | ⟨x, rfl⟩ | ⟨x, rfl⟩ | rfl | rfl | rfl | rfl | rfl <;> rfl
theorem mq_run_ok {ps : List Nat} {ks jp : mq_J} {ca : mq_Ca} {kr : mq_Kr} {kx : mq_Kx} (hca : ∀ j as n t env kr kx h, ca j as n t env kr kx = true → mq_Sat ρ env → mq_Hr ρ n t h → mj_Ok D j (as.map (mq_val ρ)) h (mq_Po ρ kr kx))
    (hjp : ∀ l pc, ps[l]? = some pc → mq_G D M Q ρ (jp l) pc) (hks : ∀ p, mq_G D M Q ρ (ks p) p) (hQ : ∀ r, mq_Po ρ kr kx r → Q r) : ∀ (k : mq_K) (pc : Nat), mq_ckK M ps k pc = true → mq_G D M Q ρ (mq_run k ks jp ca kr kx) pc
  | [], pc, hk => by cases hk
  | .inl x :: k, pc, hk => by
    unfold mq_ckK at hk
    split at hk
    · rename_i ins r1 r2 r3 r4 r5 hc
      split at hk
      · rename_i len hl
        have ih := mq_run_ok hca hjp hks hQ k _ hk
        intro loc st n t env mloc h R g
        exact mq_ex_ok hc hl R g ih
      · cases hk
    · cases hk
  | .inr (.inr (.inr (.inr (.inr (.inl l))))) :: _, pc, hk => by
    unfold mq_ckK at hk
    intro loc st n t env mloc h R g
    have g : jp l loc st n t env = true := g
    rcases mq_or_of hk with hk | hk
    · exact hjp l pc (mq_at_of hk) _ _ _ _ _ _ _ R g
    · split at hk
      · rename_i hc
        exact mj_T.step hc rfl rfl (hjp l _ (mq_at_of hk) _ _ _ _ _ _ _ R g)
      · cases hk
  | .inr (.inl (c, l)) :: k, pc, hk => by
    unfold mq_ckK at hk
    split at hk
    · rename_i c' o r1 r2 r3 r4 r5 hc
      rw [Bool.and_eq_true, Bool.and_eq_true] at hk
      obtain ⟨h1, h2, h3⟩ := hk
      have h1 := of_decide_eq_true h1
      subst h1
      have ih := mq_run_ok hca hjp hks hQ k _ h3
      intro loc st n t env mloc h R g
      have g : (mq_p1 st fun w s => mq_cI c' w ((Sum.inl 0)) env fun b e => cond b (jp l loc s n t e) (mq_run k ks jp ca kr kx loc s n t e)) = true := g
      obtain ⟨w, s, rfl, g2⟩ := mq_p1_of g
      obtain ⟨e, x, y, k1, k2, S, g3⟩ := mq_cI_of g2 R.sat
      have ey : y = 0 := by
        have : Value.int (jn (0 : Nat)) = Value.int y := k2
        injection this with this
        exact this.symm
      subst ey
      rw [List.map_cons, k1]
      cases hb : mj_cnd c' x 0
      · rw [hb] at g3
        exact mj_T.step hc rfl (by simp only [mj_step, hb]; rfl) (ih _ _ _ _ _ _ _ (R.env S) g3)
      · rw [hb] at g3
        exact mj_T.step hc rfl (by simp only [mj_step, hb, if_true]) (hjp l _ (mq_at_of h2) _ _ _ _ _ _ _ (R.env S) g3)
    · cases hk
  | .inr (.inr (.inl (c, l))) :: k, pc, hk => by
    unfold mq_ckK at hk
    split at hk
    · rename_i c' o r1 r2 r3 r4 r5 hc
      rw [Bool.and_eq_true, Bool.and_eq_true] at hk
      obtain ⟨h1, h2, h3⟩ := hk
      have h1 := of_decide_eq_true h1
      subst h1
      have ih := mq_run_ok hca hjp hks hQ k _ h3
      intro loc st n t env mloc h R g
      have g : (mq_p1 st fun wy s => mq_p1 s fun wx s => mq_cI c' wx wy env fun b e => cond b (jp l loc s n t e) (mq_run k ks jp ca kr kx loc s n t e)) = true := g
      obtain ⟨wy, s1, rfl, g2⟩ := mq_p1_of g
      obtain ⟨wx, s, rfl, g3⟩ := mq_p1_of g2
      obtain ⟨e, x, y, k1, k2, S, g4⟩ := mq_cI_of g3 R.sat
      rw [List.map_cons, List.map_cons, k1, k2]
      cases hb : mj_cnd c' x y
      · rw [hb] at g4
        exact mj_T.step hc rfl (by simp only [mj_step, hb]; rfl) (ih _ _ _ _ _ _ _ (R.env S) g4)
      · rw [hb] at g4
        exact mj_T.step hc rfl (by simp only [mj_step, hb, if_true]) (hjp l _ (mq_at_of h2) _ _ _ _ _ _ _ (R.env S) g4)
    · cases hk
  | .inr (.inr (.inr (.inl (c, l)))) :: k, pc, hk => by
    unfold mq_ckK at hk
    split at hk
    · rename_i hc0
      split at hk
      · rename_i c' o r1 r2 r3 r4 r5 hc
        rw [Bool.and_eq_true, Bool.and_eq_true] at hk
        obtain ⟨h1, h2, h3⟩ := hk
        have h1 := of_decide_eq_true h1
        subst h1
        have ih := mq_run_ok hca hjp hks hQ k _ h3
        intro loc st n t env mloc h R g
        have g : (mq_p1 st fun wy s => mq_p1 s fun wx s => mq_cJ c' wx wy env fun b e => cond b (jp l loc s n t e) (mq_run k ks jp ca kr kx loc s n t e)) = true := g
        obtain ⟨wy, s1, rfl, g2⟩ := mq_p1_of g
        obtain ⟨wx, s, rfl, g3⟩ := mq_p1_of g2
        obtain ⟨e, x, y, k1, k2, S, g4⟩ := mq_cJ_of g3 R.sat
        rw [List.map_cons, List.map_cons, k1, k2]
        refine mj_T.step hc0 rfl (show mj_step _ _ _ _ _ _ _ _ _ = some (pc + 1, mloc, .int (lg_cmp x y) :: s.map (mq_val ρ), h) from rfl) ?_
        cases hb : mj_cnd c' (lg_cmp x y) 0
        · rw [hb] at g4
          exact mj_T.step hc rfl (by simp only [mj_step, hb]; rfl) (ih _ _ _ _ _ _ _ (R.env S) g4)
        · rw [hb] at g4
          exact mj_T.step hc rfl (by simp only [mj_step, hb, if_true]) (hjp l _ (mq_at_of h2) _ _ _ _ _ _ _ (R.env S) g4)
      · cases hk
    · cases hk
  | .inr (.inr (.inr (.inr (.inr (.inr (.inl (ls, ld))))))) :: _, pc, hk => by
    unfold mq_ckK at hk
    split at hk
    · rename_i d low hi offs r1 r2 r3 r4 r5 hc
      simp only [Bool.and_eq_true, decide_eq_true_eq, List.all_eq_true, List.mem_range] at hk
      obtain ⟨h2, h3, h4, h5, h7, h6⟩ := hk
      subst h2
      intro loc st n t env mloc h R g
      have g : (mq_pI st env fun x s e => jp (mq_nth ld ls (mq_sub32 x 0)) loc s n t e) = true := g
      obtain ⟨w, s, x, e, rfl, e1, S, g2⟩ := mq_pI_of g R.sat
      rw [List.map_cons, e1]
      have ez : mq_sub32 x 0 = x % 4294967296 := by
        show (x + ((4294967296 - 0 % 4294967296) % 4294967296)) % 4294967296 = _
        rfl
      rw [ez] at g2
      have hx := mq_jn_toInt x
      have e3 : mq_o32 x = (x + 2147483648) % 4294967296 := rfl
      rw [e3] at hx
      by_cases c : x % 4294967296 < ls.length
      · have h8 := h6 _ c
        have hxz : (jn (x : Nat)).toInt = ((x % 4294967296 : Nat) : Int) := by rw [hx]; omega
        split at h8
        · rename_i off ho
          rw [Bool.and_eq_true, decide_eq_true_eq] at h8
          rw [mq_nth_eq] at g2
          refine mj_T.step hc rfl ?_ (hjp _ _ (mq_at_of h8.2) _ _ _ _ _ _ _ (R.env S) g2)
          simp only [mj_step, hxz]
          rw [if_neg (by omega)]
          have e4 : (((x % 4294967296 : Nat) : Int) - 0).toNat = x % 4294967296 := by omega
          rw [e4, ho]
          simp only
          rw [if_pos h8.1]
        · cases h8
      · rw [mq_nth_ge (by omega)] at g2
        refine mj_T.step hc rfl ?_ (hjp _ _ (mq_at_of h5) _ _ _ _ _ _ _ (R.env S) g2)
        simp only [mj_step]
        rw [if_pos (by rw [hx]; omega), if_pos h4]
    · cases hk
  | .inr (.inr (.inr (.inr (.inl (j, na, rc, hs))))) :: k, pc, hk => by
    unfold mq_ckK at hk
    split at hk
    · rename_i ins r1 r2 r3 r4 r5 hc
      rw [Bool.and_eq_true, Bool.and_eq_true, Bool.and_eq_true, Bool.and_eq_true, Bool.and_eq_true] at hk
      obtain ⟨h1, h2, h3, h4, h5, h6⟩ := hk
      have h1 := of_decide_eq_true h1
      have h2 := of_decide_eq_true h2
      have h3 := of_decide_eq_true h3
      subst h2
      subst h3
      have ih := mq_run_ok hca hjp hks hQ k _ h6
      intro loc st n t env mloc h R g
      have g : (mq_rev st r2 [] fun as s => (Bool.rec (motive := fun _ => Bool) false (ca r1 as n t env (fun w n t e => mq_run k ks jp ca kr kx loc (mq_psh w s) n t e) (fun i n t e => cond (mq_isn hs) (kx i n t e) (mq_hs hs i fun kk l => jp l (mq_nup (Sum.inr (Sum.inr (Sum.inr (Sum.inr (Sum.inr (Sum.inr (Sum.inr (Sum.inr (some none))))))))) (mq_up1 loc kk ((Sum.inl 0))) kk (Sum.inr (Sum.inr (Sum.inr (Sum.inr (Sum.inr (Sum.inr (Sum.inr (Sum.inr (some none)))))))))) [] n t e))) (mq_and (mq_cat s) (mq_rcv rc as t)))) = true := g
      obtain ⟨l, s, rfl, hl, g⟩ := mq_rev_of g
      rw [List.append_nil] at g
      obtain ⟨q, g⟩ := mq_cond_of g
      rw [mq_and_eq] at q
      have hcat := mq_cat_of (ρ := ρ) q.1
      have hk3 : mj_kind ins r3 = 3 := by
        unfold mq_cky at h4
        split at h4
        · simp only [mj_kind]; rw [if_pos h1]
        · simp only [mj_kind]; rw [if_pos h1]
        · simp only [mj_kind]; rw [if_pos h1]
        · cases h4
      have ed : ((l ++ s).map (mq_val ρ)).drop r2 = s.map (mq_val ρ) := by
        rw [List.map_append, ← hl, List.drop_left' (by simp)]
      have et : (((l ++ s).map (mq_val ρ)).take r2).reverse = l.reverse.map (mq_val ρ) := by
        rw [List.map_append, ← hl, List.take_left' (by simp), List.map_reverse]
      refine mj_T.call hc hk3 (by simp; omega) (by rw [ed]; exact hcat) (mq_recv_of hl R.hr h4 q.2) et (hca _ _ _ _ _ _ _ _ g R.sat R.hr) ?_ ?_
      · intro v h' ⟨w, n', t', e', k1, k2, k3, k4⟩
        rw [ed, k1, ← mq_psh_map]
        exact ih _ _ _ _ _ _ _ ⟨k3, R.len, R.lo, k2⟩ k4
      · intro i h' ⟨n', t', e', k2, k3, k4⟩
        cases hs with
        | nil => exact Or.inl ⟨mq_emp_of h5, hQ _ ⟨n', t', e', k2, k3, k4⟩⟩
        | cons x hs =>
          right
          have k4 : mq_hs (x :: hs) i (fun kk l => jp l (mq_nup (Sum.inr (Sum.inr (Sum.inr (Sum.inr (Sum.inr (Sum.inr (Sum.inr (Sum.inr (some none))))))))) (mq_up1 loc kk ((Sum.inl 0))) kk (Sum.inr (Sum.inr (Sum.inr (Sum.inr (Sum.inr (Sum.inr (Sum.inr (Sum.inr (some none)))))))))) [] n' t' e') = true := k4
          obtain ⟨kk, l2, m1, m2⟩ := mq_hs_of k4
          have m3 := List.all_eq_true.mp h5 _ m1
          unfold mq_ckh at m3
          simp only at m3
          split at m3
          · rename_i kk' nx hf
            rw [Bool.and_eq_true, Bool.and_eq_true, decide_eq_true_eq, decide_eq_true_eq] at m3
            obtain ⟨rfl, m4, m5⟩ := m3
            refine ⟨kk', nx, hf, by rw [R.len]; exact m4, ?_⟩
            have R' : mq_R ρ M.2.2.1 loc n' t' e' mloc h' := ⟨k3, R.len, R.lo, k2⟩
            exact hjp _ _ (mq_at_of m5) _ [] _ _ _ _ _ ((R'.up1 m4 (w := (Sum.inl 0)) (v := .int 0) rfl).up0) m2
          · cases m3
    · cases hk
  | .inr (.inr (.inr (.inr (.inr (.inr (.inr (.inl kd))))))) :: _, pc, hk => by
    unfold mq_ckK at hk
    split at hk
    · rename_i ins r1 r2 r3 r4 r5 hc
      intro loc st n t env mloc h R g
      have g : mq_k_r kd ks jp ca kr kx loc st n t env = true := g
      have out : ∀ (w : mq_W) (e : mq_V), mq_Sat ρ e → kr w n t e = true → Q (.inl (mq_ov ρ w), h) := fun w e S hw => hQ _ ⟨w, n, t, e, rfl, R.hr, S, hw⟩
      rcases st with _ | ⟨w, _ | ⟨w2, st⟩⟩
      · have g : (Bool.rec (motive := fun _ => Bool) false (kr (Sum.inr (Sum.inr (Sum.inr (Sum.inr (Sum.inr (Sum.inr (Sum.inr (Sum.inr (some none))))))))) n t env) (Nat.beq kd 6)) = true := g
        obtain ⟨q, g⟩ := mq_cond_of g
        have q := Nat.beq_eq.mp q
        subst q
        unfold mq_ckr at hk
        split at hk
        all_goals (try (split at hk))
        all_goals first
          | (cases hk; done)
          | (exfalso; exact absurd (of_decide_eq_true hk) (by decide))
          | skip
        rename_i hret
        exact mj_T.ret hc rfl (by rw [hret]; rfl) (out (Sum.inr (Sum.inr (Sum.inr (Sum.inr (Sum.inr (Sum.inr (Sum.inr (Sum.inr (some none))))))))) _ R.sat g)
      · have g : cond (Nat.beq kd 4) (mq_vI w env fun x e => (Bool.rec (motive := fun _ => Bool) false (kr ((Sum.inl x)) n t e) (Nat.ble x 1))) ((Bool.rec (motive := fun _ => Bool) false (kr w n t env) (mq_kd kd w))) = true := g
        cases hb : Nat.beq kd 4
        · rw [hb] at g
          have g : (Bool.rec (motive := fun _ => Bool) false (kr w n t env) (mq_kd kd w)) = true := g
          obtain ⟨q, g⟩ := mq_cond_of g
          have ho : mq_ov ρ w = some (mq_val ρ w) := by
            rcases mq_Wd w with ⟨n, rfl⟩ | ⟨a, rfl⟩ | ⟨n, rfl⟩ | ⟨i, m, c, rfl⟩ | ⟨i, rfl⟩ | ⟨i, lo, l, rfl⟩ | ⟨x, rfl⟩ | ⟨x, rfl⟩ | rfl | rfl | rfl | rfl | rfl <;> first | rfl | cases q
          have hq := out w _ R.sat g
          rw [ho] at hq
          rw [List.map_cons, List.map_nil]
          unfold mq_ckr at hk
          split at hk
          all_goals (try (split at hk))
          all_goals first
            | (cases hk; done)
            | skip
          all_goals (have hkd := of_decide_eq_true hk; subst hkd)
          · have hret : M.2.2.2.1 = some .int := by assumption
            obtain ⟨x, hx⟩ := mq_kd0 (ρ := ρ) q
            rw [hx] at hq ⊢
            exact mj_T.ret hc rfl (by rw [hret]; rfl) hq
          · cases hb
          · have hret : M.2.2.2.1 = some .long := by assumption
            obtain ⟨x, hx⟩ := mq_kd1 (ρ := ρ) q
            rw [hx] at hq ⊢
            exact mj_T.ret hc rfl (by rw [hret]; rfl) hq
          · have hret : M.2.2.2.1 = some .float := by assumption
            obtain ⟨x, hx⟩ := mq_kd5 (ρ := ρ) q
            rw [hx] at hq ⊢
            exact mj_T.ret hc rfl (by rw [hret]; rfl) hq
          · have hret : M.2.2.2.1 = some .double := by assumption
            obtain ⟨x, hx⟩ := mq_kd3 (ρ := ρ) q
            rw [hx] at hq ⊢
            exact mj_T.ret hc rfl (by rw [hret]; rfl) hq
          · obtain ⟨nm, hret⟩ : ∃ nm, M.2.2.2.1 = some (.object nm) := ⟨_, by assumption⟩
            obtain ⟨x, hx⟩ := mq_kd2 (ρ := ρ) q
            rw [hx] at hq ⊢
            exact mj_T.ret hc rfl (by rw [hret]; rfl) hq
          · obtain ⟨nm, hret⟩ : ∃ nm, M.2.2.2.1 = some (.array nm) := ⟨_, by assumption⟩
            obtain ⟨x, hx⟩ := mq_kd2 (ρ := ρ) q
            rw [hx] at hq ⊢
            exact mj_T.ret hc rfl (by rw [hret]; rfl) hq
          · rcases mq_Wd w with ⟨n, rfl⟩ | ⟨a, rfl⟩ | ⟨n, rfl⟩ | ⟨i, m, c, rfl⟩ | ⟨i, rfl⟩ | ⟨i, lo, l, rfl⟩ | ⟨x, rfl⟩ | ⟨x, rfl⟩ | rfl | rfl | rfl | rfl | rfl <;> cases q
        · rw [hb] at g
          have hkd := Nat.beq_eq.mp hb
          subst hkd
          have g : (mq_vI w env fun x e => (Bool.rec (motive := fun _ => Bool) false (kr ((Sum.inl x)) n t e) (Nat.ble x 1))) = true := g
          obtain ⟨x, e, hx, S, g⟩ := mq_vI_of g R.sat
          obtain ⟨q, g⟩ := mq_cond_of g
          have q : x ≤ 1 := Nat.ble_eq.mp q
          have hq := out ((Sum.inl x)) _ S g
          have hq : Q (.inl (some (.int (jn (x : Nat)))), h) := hq
          rw [List.map_cons, List.map_nil, hx]
          unfold mq_ckr at hk
          split at hk
          all_goals (try (split at hk))
          all_goals first
            | (cases hk; done)
            | (exfalso; exact absurd (of_decide_eq_true hk) (by decide))
            | skip
          rename_i hret
          have hz : jn (x : Nat) = 0 ∨ jn (x : Nat) = 1 := by
            have : x = 0 ∨ x = 1 := by omega
            rcases this with e | e <;> subst e
            · exact Or.inl rfl
            · exact Or.inr rfl
          exact mj_T.ret hc rfl (by rw [hret]; simp only [mj_retv]; rw [if_pos hz]) hq
      · cases g
    · cases hk
  | .inr (.inr (.inr (.inr (.inr (.inr (.inr (.inr (.inl i)))))))) :: _, pc, hk => by
    unfold mq_ckK at hk
    split at hk
    · rename_i ix r1 r2 r3 r4 r5 hc
      rw [Bool.and_eq_true, Bool.and_eq_true, decide_eq_true_eq, decide_eq_true_eq] at hk
      obtain ⟨rfl, rfl, h3⟩ := hk
      intro loc st n t env mloc h R g
      have g : (Bool.rec (motive := fun _ => Bool) false (kx r1 (Nat.add n (nat_lit 1)) (mq_hset t n none) env) (mq_and (mq_cat st) (Nat.ble n (nat_lit 1000)))) = true := g
      obtain ⟨q, g⟩ := mq_cond_of g
      rw [mq_and_eq] at q
      have q2 : n ≤ 1000 := Nat.ble_eq.mp q.2
      refine mj_T.throws hc rfl (mq_emp_of h3) (mq_cat_of q.1) (hQ _ ⟨_, _, _, ?_, R.sat, g⟩)
      exact R.hr.push (by omega) (Or.inl (by decide)) (Or.inl rfl)
    · cases hk
  | .inr (.inr (.inr (.inr (.inr (.inr (.inr (.inr (.inr p)))))))) :: _, pc, hk => by
    unfold mq_ckK at hk
    have := of_decide_eq_true hk
    subst this
    exact hks p
end MQR
