/-! Rows of two polynomials: elimination, and peeling off the top. -/
def pz_sh (k : Nat) (P : pz_P) : pz_P := fun i => if i < k then 0 else P (i - k)
/-- a rows of A, b rows of B, each time shifted less -/
def srow (a b : Nat) (A B : pz_P) (r : Nat) : pz_P := if r < a then pz_sh (a - 1 - r) A else pz_sh (a + b - 1 - r) B
/-- equal, or equal but for the sign -/
def pm (f g : pz_P) : Prop := (∀ x, f x = g x) ∨ (∀ x, f x = -g x)
theorem pm.rf (f : pz_P) : pm f f := Or.inl fun _ => rfl
theorem pm.sy {f g : pz_P} (h : pm f g) : pm g f := by
  rcases h with h | h
  · exact Or.inl fun x => (h x).symm
  · exact Or.inr fun x => by rw [h x]; omega
theorem pm.tr {f g k : pz_P} (h : pm f g) (q : pm g k) : pm f k := by
  rcases h with h | h <;> rcases q with q | q
  · exact Or.inl fun x => by rw [h x, q x]
  · exact Or.inr fun x => by rw [h x, q x]
  · exact Or.inr fun x => by rw [h x, q x]
  · exact Or.inl fun x => by rw [h x, q x]; omega
theorem pm.sc {f g : pz_P} (h : pm f g) (c : Int) : pm (pz_sc c f) (pz_sc c g) := by
  rcases h with h | h
  · exact Or.inl fun x => by show c * f x = c * g x; rw [h x]
  · exact Or.inr fun x => by show c * f x = -(c * g x); rw [h x, Int.mul_neg]
theorem pm.un {f g : pz_P} {c : Int} (hc : c ≠ 0) (h : pm (pz_sc c f) (pz_sc c g)) : pm f g := by
  rcases h with h | h
  · exact Or.inl fun x => Int.eq_of_mul_eq_mul_left hc (h x)
  · exact Or.inr fun x => Int.eq_of_mul_eq_mul_left hc (by
      have := h x
      rw [Int.mul_neg]
      exact this)
theorem pm_sgn {s : Int} (hs : s = 1 ∨ s = -1) (f : pz_P) : pm (pz_sc s f) f := by
  rcases hs with h | h
  · exact Or.inl fun x => by show s * f x = f x; rw [h, Int.one_mul]
  · exact Or.inr fun x => by show s * f x = -f x; rw [h]; omega
/-- one step of an elimination: each row of A is changed in the same way -/
theorem dp_elim {a b s c : Nat} {A B P : pz_P} {l t : Int} (ha : 1 ≤ a) (hs : a + s ≤ b) (hP : ∀ i, P i = l * A i - t * pz_sh s B i) : ∀ x, dp (a + b - 1) c (srow a b P B) x = l ^ a * dp (a + b - 1) c (srow a b A B) x := by
  -- row by row
  have key : ∀ u, u ≤ a → ∀ x, dp (a + b - 1) c (fun r => if r < u then pz_sh (a - 1 - r) P else srow a b A B r) x = l ^ u * dp (a + b - 1) c (srow a b A B) x := by
    intro u
    induction u with
    | zero =>
      intro _ x
      rw [Int.pow_zero, Int.one_mul]
      rfl
    | succ u ih =>
      intro hu x
      have h1 := ih (by omega) x
      have h2 := dp_row (k := a + b - 1) (c := c) (r := u) (s := a + (b - 1 - (a - 1 - u + s))) (L := fun r => if r < u then pz_sh (a - 1 - r) P else srow a b A B r) (by omega) (by omega) (by omega) l (-t) x
      rw [h1, ← Int.mul_assoc, ← Int.pow_succ'] at h2
      rw [← h2]
      refine congrFun (dp_congr _ _ (fun r hr => ?_)) x
      unfold rup
      by_cases c1 : r = u
      · subst c1
        rw [if_pos (by omega), if_pos rfl, if_neg (by omega), if_neg (by omega)]
        unfold srow
        rw [if_pos (by omega), if_neg (by omega), show a + b - 1 - (a + (b - 1 - (a - 1 - r + s))) = a - 1 - r + s by omega]
        funext i
        show (if i < a - 1 - r then 0 else P (i - (a - 1 - r))) = l * (if i < a - 1 - r then 0 else A (i - (a - 1 - r))) + -t * (if i < a - 1 - r + s then 0 else B (i - (a - 1 - r + s)))
        by_cases d : i < a - 1 - r
        · rw [if_pos d, if_pos d, if_pos (by omega)]
          omega
        · rw [if_neg d, if_neg d, hP]
          show l * A (i - (a - 1 - r)) - t * (if i - (a - 1 - r) < s then 0 else B (i - (a - 1 - r) - s)) = _
          by_cases e : i < a - 1 - r + s
          · rw [if_pos e, if_pos (by omega), Int.mul_zero, Int.mul_zero]
            omega
          · rw [if_neg e, if_neg (by omega), show i - (a - 1 - r) - s = i - (a - 1 - r + s) by omega, Int.neg_mul]
            omega
      · rw [if_neg c1]
        show (if r < u + 1 then pz_sh (a - 1 - r) P else srow a b A B r) = if r < u then pz_sh (a - 1 - r) P else srow a b A B r
        by_cases c2 : r < u
        · rw [if_pos c2, if_pos (by omega)]
        · rw [if_neg c2, if_neg (by omega)]
  intro x
  rw [← key a (Nat.le_refl a) x]
  refine congrFun (dp_congr _ _ (fun r hr => ?_)) x
  unfold srow
  by_cases c1 : r < a
  · rw [if_pos c1, if_pos c1]
  · rw [if_neg c1, if_neg c1, if_neg c1]
/-- the uppermost row of B is the only one that reaches the top -/
theorem dp_peel1 {a b n : Nat} {R B : pz_P} (ha : 1 ≤ a) (hB : ∀ i, n < i → B i = 0) (hR : ∀ i, n + (b + 1) ≤ i + a → R i = 0) (x : Nat) : dp (a + (b + 1) - 1) (b + n) (srow a (b + 1) R B) x = sgn a * B n * dp (a + b - 1) (b + n - 1) (srow a b R B) x := by
  obtain ⟨k, hk⟩ : ∃ k, a + b - 1 = k := ⟨_, rfl⟩
  rw [show a + (b + 1) - 1 = k + 1 by omega, hk]
  rw [dp_top (p := a) (by omega) (fun r hr hn => ?_) x]
  · have e1 : srow a (b + 1) R B a (b + n) = B n := by
      unfold srow pz_sh
      rw [if_neg (by omega), if_neg (by omega), show b + n - (a + (b + 1) - 1 - a) = n by omega]
    rw [e1]
    have e2 : ∀ r, rsk1 a (srow a (b + 1) R B) r = srow a b R B r := fun r => by
      unfold rsk1 srow
      by_cases c : r < a
      · rw [if_pos c, if_pos c, if_pos c]
      · rw [if_neg c, if_neg (by omega), if_neg c, show a + (b + 1) - 1 - (r + 1) = a + b - 1 - r by omega]
    rw [funext e2]
  · unfold srow pz_sh
    by_cases c : r < a
    · rw [if_pos c]
      show (if b + n < a - 1 - r then 0 else R (b + n - (a - 1 - r))) = 0
      split
      · rfl
      · exact hR _ (by omega)
    · rw [if_neg c, if_neg (by omega)]
      exact hB _ (by omega)
theorem dp_peel {a b n : Nat} {R B : pz_P} (ha : 1 ≤ a) (hB : ∀ i, n < i → B i = 0) : ∀ t : Nat, (∀ i, n + b + 1 ≤ i + a → R i = 0) → 1 ≤ a + b + n → pm (dp (a + (b + t) - 1) (b + t + n - 1) (srow a (b + t) R B)) (pz_sc ((B n) ^ t) (dp (a + b - 1) (b + n - 1) (srow a b R B)))
  | 0, _, _ => by
    refine Or.inl fun x => ?_
    show _ = (B n) ^ 0 * _
    rw [Int.pow_zero, Int.one_mul]
    rfl
  | t + 1, hR, h1 => by
    have ih := dp_peel (b := b) ha hB t hR h1
    have h2 := fun x => dp_peel1 (b := b + t) (x := x) ha hB (fun i hi => hR i (by omega))
    have h3 : pm (dp (a + (b + (t + 1)) - 1) (b + (t + 1) + n - 1) (srow a (b + (t + 1)) R B)) (pz_sc (B n) (dp (a + (b + t) - 1) (b + t + n - 1) (srow a (b + t) R B))) := by
      have h4 : ∀ x, dp (a + (b + (t + 1)) - 1) (b + (t + 1) + n - 1) (srow a (b + (t + 1)) R B) x = pz_sc (sgn a) (pz_sc (B n) (dp (a + (b + t) - 1) (b + t + n - 1) (srow a (b + t) R B))) x := fun x => by
        have := h2 x
        rw [show b + (t + 1) + n - 1 = b + t + n by omega]
        show dp (a + (b + t + 1) - 1) (b + t + n) (srow a (b + t + 1) R B) x = sgn a * (B n * _)
        rw [this, Int.mul_assoc]
      exact pm.tr (Or.inl h4) (pm_sgn (sgn_sq a) _)
    have h5 := h3.tr (ih.sc (B n))
    refine h5.tr (Or.inl fun x => ?_)
    show B n * ((B n) ^ t * _) = (B n) ^ (t + 1) * _
    rw [Int.pow_succ, Int.mul_comm ((B n) ^ t) (B n), Int.mul_assoc]
/-- a factor of A -/
theorem dp_scA {a b c : Nat} {A B P : pz_P} {l : Int} (hP : ∀ i, P i = l * A i) (hab : 1 ≤ a + b) : ∀ x, dp (a + b - 1) c (srow a b P B) x = l ^ a * dp (a + b - 1) c (srow a b A B) x := by
  have key : ∀ u, u ≤ a → ∀ x, dp (a + b - 1) c (fun r => if r < u then pz_sh (a - 1 - r) P else srow a b A B r) x = l ^ u * dp (a + b - 1) c (srow a b A B) x := by
    intro u
    induction u with
    | zero =>
      intro _ x
      rw [Int.pow_zero, Int.one_mul]
      rfl
    | succ u ih =>
      intro hu x
      have h1 := ih (by omega) x
      have h2 := dp_lin l 0 (pz_sh (a - 1 - u) A) (pz_sh (a - 1 - u) A) (a + b - 1) c u (fun r => if r < u then pz_sh (a - 1 - r) P else srow a b A B r) (by omega) x
      rw [Int.zero_mul, Int.add_zero] at h2
      have e1 : rup (fun r => if r < u then pz_sh (a - 1 - r) P else srow a b A B r) u (pz_sh (a - 1 - u) A) = (fun r => if r < u then pz_sh (a - 1 - r) P else srow a b A B r) := funext fun r => by
        unfold rup
        by_cases c1 : r = u
        · subst c1
          rw [if_pos rfl, if_neg (by omega)]
          unfold srow
          rw [if_pos (by omega)]
        · rw [if_neg c1]
      rw [e1, h1, ← Int.mul_assoc, ← Int.pow_succ'] at h2
      rw [← h2]
      refine congrFun (dp_congr _ _ (fun r hr => ?_)) x
      unfold rup
      by_cases c1 : r = u
      · subst c1
        rw [if_pos (by omega), if_pos rfl]
        funext i
        show (if i < a - 1 - r then 0 else P (i - (a - 1 - r))) = l * (if i < a - 1 - r then 0 else A (i - (a - 1 - r))) + 0 * _
        rw [Int.zero_mul, Int.add_zero]
        by_cases d : i < a - 1 - r
        · rw [if_pos d, if_pos d, Int.mul_zero]
        · rw [if_neg d, if_neg d, hP]
      · rw [if_neg c1]
        show (if r < u + 1 then pz_sh (a - 1 - r) P else srow a b A B r) = if r < u then pz_sh (a - 1 - r) P else srow a b A B r
        by_cases c2 : r < u
        · rw [if_pos c2, if_pos (by omega)]
        · rw [if_neg c2, if_neg (by omega)]
  intro x
  rw [← key a (Nat.le_refl a) x]
  refine congrFun (dp_congr _ _ (fun r hr => ?_)) x
  unfold srow
  by_cases c1 : r < a
  · rw [if_pos c1, if_pos c1]
  · rw [if_neg c1, if_neg c1, if_neg c1]
/-- the two blocks change places -/
theorem dp_mv1 (k c r : Nat) (L L' : Nat → pz_P) (hr : r + 1 ≤ k) (h1 : L' r = L (r + 1)) (h2 : L' (r + 1) = L r) (h3 : ∀ s, s ≤ k → s ≠ r → s ≠ r + 1 → L' s = L s) : pm (dp k c L') (dp k c L) := by
  refine Or.inr fun x => ?_
  have h := dp_swap k c r L hr (L r) (L (r + 1)) x
  rw [rup_self, rup_self] at h
  rw [← h]
  refine congrFun (dp_congr _ _ (fun s hs => ?_)) x
  unfold rup
  by_cases c1 : s = r + 1
  · rw [if_pos c1, c1, h2]
  · rw [if_neg c1]
    by_cases c2 : s = r
    · rw [if_pos c2, c2, h1]
    · rw [if_neg c2]
      exact h3 s hs c2 c1
/-- t rows of the second block lie ahead of the first one; one more row of it has come u places down -/
def smix (a t u : Nat) (X Y : Nat → pz_P) (r : Nat) : pz_P := if r < t then Y r else if r < t + (a - u) then X (r - t) else if r = t + (a - u) then Y t else if r < t + a + 1 then X (r - t - 1) else Y (r - a)
theorem dp_blocks {a b c : Nat} (X Y : Nat → pz_P) : ∀ t, t ≤ b → pm (dp (a + b - 1) c (fun r => if r < t then Y r else if r < t + a then X (r - t) else Y (r - a))) (dp (a + b - 1) c (fun r => if r < a then X r else Y (r - a)))
  | 0, _ => by
    refine Or.inl fun x => congrFun (dp_congr _ _ (fun r hr => ?_)) x
    rw [if_neg (Nat.not_lt_zero r), Nat.zero_add, Nat.sub_zero]
  | t + 1, ht => by
    have ih := dp_blocks (a := a) (b := b) (c := c) X Y t (by omega)
    have mv : ∀ u, u ≤ a → pm (dp (a + b - 1) c (smix a t u X Y)) (dp (a + b - 1) c (fun r => if r < t then Y r else if r < t + a then X (r - t) else Y (r - a))) := by
      intro u
      induction u with
      | zero =>
        intro _
        refine Or.inl fun x => congrFun (dp_congr _ _ (fun r hr => ?_)) x
        unfold smix
        by_cases c1 : r < t
        · rw [if_pos c1, if_pos c1]
        · rw [if_neg c1, if_neg c1, Nat.sub_zero]
          by_cases c2 : r < t + a
          · rw [if_pos c2, if_pos c2]
          · rw [if_neg c2, if_neg c2]
            by_cases c3 : r = t + a
            · rw [if_pos c3, c3, show t + a - a = t by omega]
            · rw [if_neg c3, if_neg (by omega)]
      | succ u ihu =>
        intro hu
        refine (dp_mv1 (a + b - 1) c (t + (a - (u + 1))) (smix a t u X Y) (smix a t (u + 1) X Y) (by omega) ?_ ?_ (fun s hs n1 n2 => ?_)).tr (ihu (by omega))
        · unfold smix
          rw [if_neg (by omega), if_neg (by omega), if_pos rfl, if_neg (by omega), if_neg (by omega), if_pos (by omega)]
        · unfold smix
          rw [if_neg (by omega), if_neg (by omega), if_neg (by omega), if_pos (by omega), if_neg (by omega), if_pos (by omega)]
          rw [show t + (a - (u + 1)) + 1 - t - 1 = t + (a - (u + 1)) - t by omega]
        · unfold smix
          by_cases c1 : s < t
          · rw [if_pos c1, if_pos c1]
          · rw [if_neg c1, if_neg c1]
            by_cases c2 : s < t + (a - (u + 1))
            · rw [if_pos c2, if_pos (by omega)]
            · rw [if_neg c2, if_neg n1, if_neg (show ¬ s < t + (a - u) by omega), if_neg (show ¬ s = t + (a - u) by omega)]
    refine pm.tr ?_ ((mv a (Nat.le_refl a)).tr ih)
    refine Or.inl fun x => congrFun (dp_congr _ _ (fun r hr => ?_)) x
    unfold smix
    simp only [Nat.sub_self, Nat.add_zero]
    by_cases c1 : r < t
    · rw [if_pos c1, if_pos (by omega)]
    · rw [if_neg c1, if_neg c1]
      by_cases c2 : r = t
      · rw [if_pos c2, if_pos (by omega), c2]
      · rw [if_neg c2, if_neg (by omega), show t + 1 + a = t + a + 1 by omega]
        by_cases c3 : r < t + a + 1
        · rw [if_pos c3, if_pos c3, show r - t - 1 = r - (t + 1) by omega]
        · rw [if_neg c3, if_neg c3]
theorem dp_turn {a b c : Nat} (hab : 1 ≤ a + b) (P Q : pz_P) : pm (dp (a + b - 1) c (srow a b P Q)) (dp (b + a - 1) c (srow b a Q P)) := by
  have h := dp_blocks (a := a) (b := b) (c := c) (fun r => pz_sh (a - 1 - r) P) (fun r => pz_sh (b - 1 - r) Q) b (Nat.le_refl b)
  have h1 : pm (dp (a + b - 1) c (srow a b P Q)) (dp (a + b - 1) c (fun r => if r < a then pz_sh (a - 1 - r) P else pz_sh (b - 1 - (r - a)) Q)) := by
    refine Or.inl fun x => congrFun (dp_congr _ _ (fun r hr => ?_)) x
    unfold srow
    by_cases c1 : r < a
    · rw [if_pos c1, if_pos c1]
    · rw [if_neg c1, if_neg c1, show a + b - 1 - r = b - 1 - (r - a) by omega]
  refine h1.tr (h.sy.tr ?_)
  rw [Nat.add_comm b a]
  refine Or.inl fun x => congrFun (dp_congr _ _ (fun r hr => ?_)) x
  unfold srow
  by_cases c1 : r < b
  · rw [if_pos c1, if_pos c1]
  · rw [if_neg c1, if_neg c1]
    by_cases c2 : r < b + a
    · rw [if_pos (by omega), show b + a - 1 - r = a - 1 - (r - b) by omega]
    · omega
/-- only rows of B: its leads, and B -/
theorem dp_tri {n : Nat} {A B : pz_P} (hB : ∀ i, n < i → B i = 0) : ∀ b : Nat, ∀ x, dp b (b + n) (srow 0 (b + 1) A B) x = (B n) ^ b * B x
  | 0, x => by
    show srow 0 1 A B 0 x = _
    unfold srow pz_sh
    rw [if_neg (Nat.lt_irrefl 0), Int.pow_zero, Int.one_mul]
    rfl
  | b + 1, x => by
    rw [dp_top (p := 0) (Nat.zero_le _) (fun r hr hn => ?_) x]
    · have e1 : srow 0 (b + 1 + 1) A B 0 (b + 1 + n) = B n := by
        unfold srow pz_sh
        rw [if_neg (Nat.lt_irrefl 0), if_neg (by omega), show b + 1 + n - (0 + (b + 1 + 1) - 1 - 0) = n by omega]
      have e2 : ∀ r, rsk1 0 (srow 0 (b + 1 + 1) A B) r = srow 0 (b + 1) A B r := fun r => by
        unfold rsk1 srow
        rw [if_neg (Nat.not_lt_zero _), if_neg (Nat.not_lt_zero _), if_neg (Nat.not_lt_zero _), show 0 + (b + 1 + 1) - 1 - (r + 1) = 0 + (b + 1) - 1 - r by omega]
      rw [e1, funext e2, show b + 1 + n - 1 = b + n by omega, dp_tri hB b x]
      show 1 * B n * _ = _
      rw [Int.one_mul, Int.pow_succ, ← Int.mul_assoc, Int.mul_comm (B n) ((B n) ^ b)]
    · unfold srow pz_sh
      rw [if_neg (Nat.not_lt_zero _), if_neg (by omega)]
      exact hB _ (by omega)
