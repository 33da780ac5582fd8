/-! Determinant polynomials: rows are polynomials; all but one of the columns are cut off from the top. -/
def zs : Nat → (Nat → Int) → Int
  | 0, _ => 0
  | n + 1, f => zs n f + f n
theorem zs_congr {f g : Nat → Int} : ∀ {n : Nat}, (∀ i, i < n → f i = g i) → zs n f = zs n g
  | 0, _ => rfl
  | n + 1, h => by
    show zs n f + f n = zs n g + g n
    rw [zs_congr (fun i hi => h i (by omega)), h n (by omega)]
theorem zs_zero {f : Nat → Int} : ∀ {n : Nat}, (∀ i, i < n → f i = 0) → zs n f = 0
  | 0, _ => rfl
  | n + 1, h => by
    show zs n f + f n = 0
    rw [zs_zero (fun i hi => h i (by omega)), h n (by omega)]
    rfl
theorem zs_one {f : Nat → Int} {p : Nat} : ∀ {n : Nat}, p < n → (∀ i, i < n → i ≠ p → f i = 0) → zs n f = f p
  | 0, h, _ => by omega
  | n + 1, hp, h => by
    show zs n f + f n = f p
    by_cases c : p = n
    · subst c
      rw [zs_zero (fun i hi => h i (by omega) (by omega)), Int.zero_add]
    · rw [zs_one (p := p) (by omega) (fun i hi hn => h i (by omega) hn), h n (by omega) (fun q => c q.symm), Int.add_zero]
theorem zs_two {f : Nat → Int} {p q : Nat} (hpq : p ≠ q) : ∀ {n : Nat}, p < n → q < n → (∀ i, i < n → i ≠ p → i ≠ q → f i = 0) → zs n f = f p + f q
  | 0, h, _, _ => by omega
  | n + 1, hp, hq, h => by
    show zs n f + f n = f p + f q
    by_cases c : p = n
    · subst c
      rw [zs_one (p := q) (by omega) (fun i hi hn => h i (by omega) (by omega) hn), Int.add_comm]
    · by_cases d : q = n
      · subst d
        rw [zs_one (p := p) (by omega) (fun i hi hn => h i (by omega) hn (by omega))]
      · rw [zs_two hpq (by omega) (by omega) (fun i hi h1 h2 => h i (by omega) h1 h2), h n (by omega) (fun w => c w.symm) (fun w => d w.symm), Int.add_zero]
theorem zs_lin (a b : Int) (f g : Nat → Int) : ∀ n, zs n (fun i => a * f i + b * g i) = a * zs n f + b * zs n g
  | 0 => by show (0 : Int) = a * 0 + b * 0; rw [Int.mul_zero, Int.mul_zero]; rfl
  | n + 1 => by
    show zs n _ + (a * f n + b * g n) = a * (zs n f + f n) + b * (zs n g + g n)
    rw [zs_lin a b f g n, Int.mul_add, Int.mul_add]
    omega
def sgn : Nat → Int
  | 0 => 1
  | n + 1 => -sgn n
theorem sgn_sq : ∀ n, sgn n = 1 ∨ sgn n = -1
  | 0 => Or.inl rfl
  | n + 1 => by
    show -sgn n = 1 ∨ -sgn n = -1
    rcases sgn_sq n with h | h <;> rw [h]
    · exact Or.inr rfl
    · exact Or.inl rfl
/-- the rows without one of them -/
def rsk1 (i : Nat) (L : Nat → pz_P) (r : Nat) : pz_P := if r < i then L r else L (r + 1)
/-- another row in its place -/
def rup (L : Nat → pz_P) (r : Nat) (P : pz_P) (s : Nat) : pz_P := if s = r then P else L s
/-- k + 1 rows, the top column c -/
def dp : Nat → Nat → (Nat → pz_P) → pz_P
  | 0, _, L => L 0
  | k + 1, c, L => fun x => zs (k + 2) (fun i => sgn i * L i c * dp k (c - 1) (rsk1 i L) x)
theorem dp_congr : ∀ (k c : Nat) {L L' : Nat → pz_P}, (∀ r, r ≤ k → L r = L' r) → dp k c L = dp k c L'
  | 0, _, L, L', h => h 0 (Nat.le_refl 0)
  | k + 1, c, L, L', h => funext fun x => by
    show zs (k + 2) _ = zs (k + 2) _
    refine zs_congr (fun i hi => ?_)
    rw [h i (by omega), dp_congr k (c - 1) (L := rsk1 i L) (L' := rsk1 i L') (fun r hr => by
      unfold rsk1
      split
      · exact h r (by omega)
      · exact h (r + 1) (by omega))]
/-- linear in each row -/
theorem dp_lin (a b : Int) (P Q : pz_P) : ∀ (k c r : Nat) (L : Nat → pz_P), r ≤ k → ∀ x, dp k c (rup L r (pz_add (pz_sc a P) (pz_sc b Q))) x = a * dp k c (rup L r P) x + b * dp k c (rup L r Q) x
  | 0, c, r, L, hr, x => by
    have e : r = 0 := by omega
    subst e
    rfl
  | k + 1, c, r, L, hr, x => by
    show zs (k + 2) _ = a * zs (k + 2) _ + b * zs (k + 2) _
    rw [← zs_lin]
    refine zs_congr (fun i hi => ?_)
    by_cases e : i = r
    · subst e
      have sk : ∀ P : pz_P, ∀ s, rsk1 i (rup L i P) s = rsk1 i L s := fun P s => by
        simp only [rsk1, rup]
        split
        · rw [if_neg (by omega)]
        · rw [if_neg (by omega)]
      rw [funext (sk (pz_add (pz_sc a P) (pz_sc b Q))), funext (sk P), funext (sk Q)]
      have e0 : ∀ P : pz_P, rup L i P i = P := fun P => if_pos rfl
      rw [e0, e0, e0]
      show sgn i * (a * P c + b * Q c) * dp k (c - 1) (rsk1 i L) x = _
      rw [Int.mul_add, Int.add_mul]
      have q1 : sgn i * (a * P c) * dp k (c - 1) (rsk1 i L) x = a * (sgn i * P c * dp k (c - 1) (rsk1 i L) x) := by ac_rfl
      have q2 : sgn i * (b * Q c) * dp k (c - 1) (rsk1 i L) x = b * (sgn i * Q c * dp k (c - 1) (rsk1 i L) x) := by ac_rfl
      rw [q1, q2]
    · have e0 : ∀ P : pz_P, rup L r P i = L i := fun P => if_neg e
      rw [e0, e0, e0]
      obtain ⟨r', hr', sk⟩ : ∃ r', r' ≤ k ∧ ∀ P : pz_P, rsk1 i (rup L r P) = rup (rsk1 i L) r' P := by
        by_cases c1 : r < i
        · refine ⟨r, by omega, fun P => funext fun s => ?_⟩
          simp only [rsk1, rup]
          by_cases d1 : s < i
          · rw [if_pos d1, if_pos d1]
          · rw [if_neg d1, if_neg (by omega), if_neg (by omega), if_neg d1]
        · refine ⟨r - 1, by omega, fun P => funext fun s => ?_⟩
          simp only [rsk1, rup]
          by_cases d1 : s < i
          · rw [if_pos d1, if_neg (by omega), if_neg (by omega), if_pos d1]
          · rw [if_neg d1, if_neg d1]
            by_cases d2 : s + 1 = r
            · rw [if_pos d2, if_pos (by omega)]
            · rw [if_neg d2, if_neg (by omega)]
      rw [sk, sk, sk, dp_lin a b P Q k (c - 1) r' (rsk1 i L) hr' x, Int.mul_add]
      have q : ∀ t d : Int, sgn i * L i c * (t * d) = t * (sgn i * L i c * d) := fun t d => by ac_rfl
      rw [q, q]
/-- two neighbours that are the same -/
theorem dp_eq : ∀ (k c r : Nat) (L : Nat → pz_P), r + 1 ≤ k → L r = L (r + 1) → ∀ x, dp k c L x = 0
  | 0, _, r, _, hr, _, _ => by omega
  | k + 1, c, r, L, hr, h, x => by
    show zs (k + 2) _ = 0
    rw [zs_two (p := r) (q := r + 1) (by omega) (by omega) (by omega) (fun i hi h1 h2 => ?_)]
    · have sk : ∀ s, rsk1 (r + 1) L s = rsk1 r L s := fun s => by
        unfold rsk1
        by_cases d1 : s < r
        · rw [if_pos d1, if_pos (by omega)]
        · rw [if_neg d1]
          by_cases d2 : s = r
          · subst d2
            rw [if_pos (by omega), h]
          · rw [if_neg (by omega)]
      rw [funext sk, h]
      show sgn r * L (r + 1) c * dp k (c - 1) (rsk1 r L) x + -sgn r * L (r + 1) c * dp k (c - 1) (rsk1 r L) x = 0
      rw [Int.neg_mul, Int.neg_mul]
      omega
    · have hz : dp k (c - 1) (rsk1 i L) x = 0 := by
        by_cases c1 : i < r
        · refine dp_eq k (c - 1) (r - 1) (rsk1 i L) (by omega) ?_ x
          unfold rsk1
          rw [if_neg (by omega), if_neg (by omega), show r - 1 + 1 = r by omega]
          exact h
        · refine dp_eq k (c - 1) r (rsk1 i L) (by omega) ?_ x
          unfold rsk1
          rw [if_pos (by omega), if_pos (by omega)]
          exact h
      rw [hz, Int.mul_zero]
theorem rup_rup (L : Nat → pz_P) (r : Nat) (P Q : pz_P) : rup (rup L r P) r Q = rup L r Q := funext fun s => by
  unfold rup
  split
  · rfl
  · rfl
theorem rup_comm (L : Nat → pz_P) {r s : Nat} (h : r ≠ s) (P Q : pz_P) : rup (rup L r P) s Q = rup (rup L s Q) r P := funext fun t => by
  unfold rup
  by_cases c : t = s
  · rw [if_pos c, if_neg (by omega), if_pos c]
  · rw [if_neg c]
    by_cases d : t = r
    · rw [if_pos d, if_pos d]
    · rw [if_neg d, if_neg d, if_neg c]
theorem rup_self (L : Nat → pz_P) (r : Nat) : rup L r (L r) = L := funext fun s => by
  unfold rup
  split
  · rename_i e
    rw [e]
  · rfl
theorem pz_add11 (P Q : pz_P) : pz_add (pz_sc 1 P) (pz_sc 1 Q) = pz_add P Q := funext fun i => by
  show 1 * P i + 1 * Q i = P i + Q i
  omega
/-- two neighbours change places -/
theorem dp_swap (k c r : Nat) (L : Nat → pz_P) (hr : r + 1 ≤ k) (P Q : pz_P) (x : Nat) : dp k c (rup (rup L r Q) (r + 1) P) x = -dp k c (rup (rup L r P) (r + 1) Q) x := by
  have lin : ∀ (A B : pz_P) (M : Nat → pz_P) (s : Nat), s ≤ k → dp k c (rup M s (pz_add A B)) x = dp k c (rup M s A) x + dp k c (rup M s B) x := fun A B M s hs => by
    have := dp_lin 1 1 A B k c s M hs x
    rw [pz_add11, Int.one_mul, Int.one_mul] at this
    exact this
  have same : ∀ A : pz_P, dp k c (rup (rup L r A) (r + 1) A) x = 0 := fun A => by
    refine dp_eq k c r _ hr ?_ x
    unfold rup
    rw [if_neg (by omega), if_pos rfl, if_pos rfl]
  have h0 := same (pz_add P Q)
  rw [lin P Q (rup L r (pz_add P Q)) (r + 1) (by omega), rup_comm L (by omega) (pz_add P Q) P, rup_comm L (by omega) (pz_add P Q) Q, lin P Q (rup L (r + 1) P) r (by omega), lin P Q (rup L (r + 1) Q) r (by omega), ← rup_comm L (show r ≠ r + 1 by omega) P P, ← rup_comm L (show r ≠ r + 1 by omega) Q P, ← rup_comm L (show r ≠ r + 1 by omega) P Q, ← rup_comm L (show r ≠ r + 1 by omega) Q Q, same, same] at h0
  omega
/-- two rows that are the same -/
theorem dp_eq2 (k c : Nat) : ∀ (d r : Nat) (L : Nat → pz_P), r + d + 1 ≤ k → L r = L (r + d + 1) → ∀ x, dp k c L x = 0
  | 0, r, L, hr, h, x => dp_eq k c r L hr h x
  | d + 1, r, L, hr, h, x => by
    -- the upper one moves down by one
    have e1 : L = rup (rup L (r + d + 1) (L (r + d + 1))) (r + d + 1 + 1) (L (r + d + 1 + 1)) := by
      rw [rup_self]
      exact (rup_self L _).symm
    have h2 := dp_swap k c (r + d + 1) L (by omega) (L (r + d + 1)) (L (r + d + 1 + 1)) x
    rw [← e1] at h2
    have h3 := dp_eq2 k c d r (rup (rup L (r + d + 1) (L (r + d + 1 + 1))) (r + d + 1 + 1) (L (r + d + 1))) (by omega) (by
      unfold rup
      rw [if_neg (by omega), if_neg (by omega), if_neg (by omega), if_pos rfl]
      exact h) x
    omega
theorem dp_two {k c r s : Nat} {L : Nat → pz_P} (hrs : r ≠ s) (hr : r ≤ k) (hs : s ≤ k) (h : L r = L s) (x : Nat) : dp k c L x = 0 := by
  rcases Nat.lt_or_ge r s with q | q
  · exact dp_eq2 k c (s - r - 1) r L (by omega) (by rw [show r + (s - r - 1) + 1 = s by omega]; exact h) x
  · exact dp_eq2 k c (r - s - 1) s L (by omega) (by rw [show s + (r - s - 1) + 1 = r by omega]; exact h.symm) x
/-- a row gets a multiple of another one, and is itself multiplied -/
theorem dp_row {k c r s : Nat} {L : Nat → pz_P} (hrs : r ≠ s) (hr : r ≤ k) (hs : s ≤ k) (a b : Int) (x : Nat) : dp k c (rup L r (pz_add (pz_sc a (L r)) (pz_sc b (L s)))) x = a * dp k c L x := by
  rw [dp_lin a b (L r) (L s) k c r L hr x, rup_self, dp_two (L := rup L r (L s)) hrs hr hs (by unfold rup; rw [if_pos rfl, if_neg (Ne.symm hrs)]) x, Int.mul_zero, Int.add_zero]
/-- just one row reaches the top column -/
theorem dp_top {k c p : Nat} {L : Nat → pz_P} (hp : p ≤ k + 1) (h : ∀ r, r ≤ k + 1 → r ≠ p → L r c = 0) (x : Nat) : dp (k + 1) c L x = sgn p * L p c * dp k (c - 1) (rsk1 p L) x := by
  show zs (k + 2) _ = _
  rw [zs_one (p := p) (by omega) (fun i hi hn => by rw [h i (by omega) hn, Int.mul_zero, Int.zero_mul])]
/-! Rows of two polynomials: elimination, and peeling off the top. -/
def pz_sh (k : Nat) (P : pz_P) : pz_P := fun i => if i < k then 0 else P (i - k)
/-- a rows of A, b rows of B, each time shifted less -/
def srow (a b : Nat) (A B : pz_P) (r : Nat) : pz_P := if r < a then pz_sh (a - 1 - r) A else pz_sh (a + b - 1 - r) B
/-- equal, or equal but for the sign -/
def pm (f g : pz_P) : Prop := (∀ x, f x = g x) ∨ (∀ x, f x = -g x)
theorem pm.rf (f : pz_P) : pm f f := Or.inl fun _ => rfl
theorem pm.sy {f g : pz_P} (h : pm f g) : pm g f := by
  rcases h with h | h
  · exact Or.inl fun x => (h x).symm
  · exact Or.inr fun x => by rw [h x]; omega
theorem pm.tr {f g k : pz_P} (h : pm f g) (q : pm g k) : pm f k := by
  rcases h with h | h <;> rcases q with q | q
  · exact Or.inl fun x => by rw [h x, q x]
  · exact Or.inr fun x => by rw [h x, q x]
  · exact Or.inr fun x => by rw [h x, q x]
  · exact Or.inl fun x => by rw [h x, q x]; omega
theorem pm.sc {f g : pz_P} (h : pm f g) (c : Int) : pm (pz_sc c f) (pz_sc c g) := by
  rcases h with h | h
  · exact Or.inl fun x => by show c * f x = c * g x; rw [h x]
  · exact Or.inr fun x => by show c * f x = -(c * g x); rw [h x, Int.mul_neg]
theorem pm.un {f g : pz_P} {c : Int} (hc : c ≠ 0) (h : pm (pz_sc c f) (pz_sc c g)) : pm f g := by
  rcases h with h | h
  · exact Or.inl fun x => Int.eq_of_mul_eq_mul_left hc (h x)
  · exact Or.inr fun x => Int.eq_of_mul_eq_mul_left hc (by
      have := h x
      rw [Int.mul_neg]
      exact this)
theorem pm_sgn {s : Int} (hs : s = 1 ∨ s = -1) (f : pz_P) : pm (pz_sc s f) f := by
  rcases hs with h | h
  · exact Or.inl fun x => by show s * f x = f x; rw [h, Int.one_mul]
  · exact Or.inr fun x => by show s * f x = -f x; rw [h]; omega
/-- one step of an elimination: each row of A is changed in the same way -/
theorem dp_elim {a b s c : Nat} {A B P : pz_P} {l t : Int} (ha : 1 ≤ a) (hs : a + s ≤ b) (hP : ∀ i, P i = l * A i - t * pz_sh s B i) : ∀ x, dp (a + b - 1) c (srow a b P B) x = l ^ a * dp (a + b - 1) c (srow a b A B) x := by
  -- row by row
  have key : ∀ u, u ≤ a → ∀ x, dp (a + b - 1) c (fun r => if r < u then pz_sh (a - 1 - r) P else srow a b A B r) x = l ^ u * dp (a + b - 1) c (srow a b A B) x := by
    intro u
    induction u with
    | zero =>
      intro _ x
      rw [Int.pow_zero, Int.one_mul]
      rfl
    | succ u ih =>
      intro hu x
      have h1 := ih (by omega) x
      have h2 := dp_row (k := a + b - 1) (c := c) (r := u) (s := a + (b - 1 - (a - 1 - u + s))) (L := fun r => if r < u then pz_sh (a - 1 - r) P else srow a b A B r) (by omega) (by omega) (by omega) l (-t) x
      rw [h1, ← Int.mul_assoc, ← Int.pow_succ'] at h2
      rw [← h2]
      refine congrFun (dp_congr _ _ (fun r hr => ?_)) x
      unfold rup
      by_cases c1 : r = u
      · subst c1
        rw [if_pos (by omega), if_pos rfl, if_neg (by omega), if_neg (by omega)]
        unfold srow
        rw [if_pos (by omega), if_neg (by omega), show a + b - 1 - (a + (b - 1 - (a - 1 - r + s))) = a - 1 - r + s by omega]
        funext i
        show (if i < a - 1 - r then 0 else P (i - (a - 1 - r))) = l * (if i < a - 1 - r then 0 else A (i - (a - 1 - r))) + -t * (if i < a - 1 - r + s then 0 else B (i - (a - 1 - r + s)))
        by_cases d : i < a - 1 - r
        · rw [if_pos d, if_pos d, if_pos (by omega)]
          omega
        · rw [if_neg d, if_neg d, hP]
          show l * A (i - (a - 1 - r)) - t * (if i - (a - 1 - r) < s then 0 else B (i - (a - 1 - r) - s)) = _
          by_cases e : i < a - 1 - r + s
          · rw [if_pos e, if_pos (by omega), Int.mul_zero, Int.mul_zero]
            omega
          · rw [if_neg e, if_neg (by omega), show i - (a - 1 - r) - s = i - (a - 1 - r + s) by omega, Int.neg_mul]
            omega
      · rw [if_neg c1]
        show (if r < u + 1 then pz_sh (a - 1 - r) P else srow a b A B r) = if r < u then pz_sh (a - 1 - r) P else srow a b A B r
        by_cases c2 : r < u
        · rw [if_pos c2, if_pos (by omega)]
        · rw [if_neg c2, if_neg (by omega)]
  intro x
  rw [← key a (Nat.le_refl a) x]
  refine congrFun (dp_congr _ _ (fun r hr => ?_)) x
  unfold srow
  by_cases c1 : r < a
  · rw [if_pos c1, if_pos c1]
  · rw [if_neg c1, if_neg c1, if_neg c1]
/-- the uppermost row of B is the only one that reaches the top -/
theorem dp_peel1 {a b n : Nat} {R B : pz_P} (ha : 1 ≤ a) (hB : ∀ i, n < i → B i = 0) (hR : ∀ i, n + (b + 1) ≤ i + a → R i = 0) (x : Nat) : dp (a + (b + 1) - 1) (b + n) (srow a (b + 1) R B) x = sgn a * B n * dp (a + b - 1) (b + n - 1) (srow a b R B) x := by
  obtain ⟨k, hk⟩ : ∃ k, a + b - 1 = k := ⟨_, rfl⟩
  rw [show a + (b + 1) - 1 = k + 1 by omega, hk]
  rw [dp_top (p := a) (by omega) (fun r hr hn => ?_) x]
  · have e1 : srow a (b + 1) R B a (b + n) = B n := by
      unfold srow pz_sh
      rw [if_neg (by omega), if_neg (by omega), show b + n - (a + (b + 1) - 1 - a) = n by omega]
    rw [e1]
    have e2 : ∀ r, rsk1 a (srow a (b + 1) R B) r = srow a b R B r := fun r => by
      unfold rsk1 srow
      by_cases c : r < a
      · rw [if_pos c, if_pos c, if_pos c]
      · rw [if_neg c, if_neg (by omega), if_neg c, show a + (b + 1) - 1 - (r + 1) = a + b - 1 - r by omega]
    rw [funext e2]
  · unfold srow pz_sh
    by_cases c : r < a
    · rw [if_pos c]
      show (if b + n < a - 1 - r then 0 else R (b + n - (a - 1 - r))) = 0
      split
      · rfl
      · exact hR _ (by omega)
    · rw [if_neg c, if_neg (by omega)]
      exact hB _ (by omega)
theorem dp_peel {a b n : Nat} {R B : pz_P} (ha : 1 ≤ a) (hB : ∀ i, n < i → B i = 0) : ∀ t : Nat, (∀ i, n + b + 1 ≤ i + a → R i = 0) → 1 ≤ a + b + n → pm (dp (a + (b + t) - 1) (b + t + n - 1) (srow a (b + t) R B)) (pz_sc ((B n) ^ t) (dp (a + b - 1) (b + n - 1) (srow a b R B)))
  | 0, _, _ => by
    refine Or.inl fun x => ?_
    show _ = (B n) ^ 0 * _
    rw [Int.pow_zero, Int.one_mul]
    rfl
  | t + 1, hR, h1 => by
    have ih := dp_peel (b := b) ha hB t hR h1
    have h2 := fun x => dp_peel1 (b := b + t) (x := x) ha hB (fun i hi => hR i (by omega))
    have h3 : pm (dp (a + (b + (t + 1)) - 1) (b + (t + 1) + n - 1) (srow a (b + (t + 1)) R B)) (pz_sc (B n) (dp (a + (b + t) - 1) (b + t + n - 1) (srow a (b + t) R B))) := by
      have h4 : ∀ x, dp (a + (b + (t + 1)) - 1) (b + (t + 1) + n - 1) (srow a (b + (t + 1)) R B) x = pz_sc (sgn a) (pz_sc (B n) (dp (a + (b + t) - 1) (b + t + n - 1) (srow a (b + t) R B))) x := fun x => by
        have := h2 x
        rw [show b + (t + 1) + n - 1 = b + t + n by omega]
        show dp (a + (b + t + 1) - 1) (b + t + n) (srow a (b + t + 1) R B) x = sgn a * (B n * _)
        rw [this, Int.mul_assoc]
      exact pm.tr (Or.inl h4) (pm_sgn (sgn_sq a) _)
    have h5 := h3.tr (ih.sc (B n))
    refine h5.tr (Or.inl fun x => ?_)
    show B n * ((B n) ^ t * _) = (B n) ^ (t + 1) * _
    rw [Int.pow_succ, Int.mul_comm ((B n) ^ t) (B n), Int.mul_assoc]
/-- a factor of A -/
theorem dp_scA {a b c : Nat} {A B P : pz_P} {l : Int} (hP : ∀ i, P i = l * A i) (hab : 1 ≤ a + b) : ∀ x, dp (a + b - 1) c (srow a b P B) x = l ^ a * dp (a + b - 1) c (srow a b A B) x := by
  have key : ∀ u, u ≤ a → ∀ x, dp (a + b - 1) c (fun r => if r < u then pz_sh (a - 1 - r) P else srow a b A B r) x = l ^ u * dp (a + b - 1) c (srow a b A B) x := by
    intro u
    induction u with
    | zero =>
      intro _ x
      rw [Int.pow_zero, Int.one_mul]
      rfl
    | succ u ih =>
      intro hu x
      have h1 := ih (by omega) x
      have h2 := dp_lin l 0 (pz_sh (a - 1 - u) A) (pz_sh (a - 1 - u) A) (a + b - 1) c u (fun r => if r < u then pz_sh (a - 1 - r) P else srow a b A B r) (by omega) x
      rw [Int.zero_mul, Int.add_zero] at h2
      have e1 : rup (fun r => if r < u then pz_sh (a - 1 - r) P else srow a b A B r) u (pz_sh (a - 1 - u) A) = (fun r => if r < u then pz_sh (a - 1 - r) P else srow a b A B r) := funext fun r => by
        unfold rup
        by_cases c1 : r = u
        · subst c1
          rw [if_pos rfl, if_neg (by omega)]
          unfold srow
          rw [if_pos (by omega)]
        · rw [if_neg c1]
      rw [e1, h1, ← Int.mul_assoc, ← Int.pow_succ'] at h2
      rw [← h2]
      refine congrFun (dp_congr _ _ (fun r hr => ?_)) x
      unfold rup
      by_cases c1 : r = u
      · subst c1
        rw [if_pos (by omega), if_pos rfl]
        funext i
        show (if i < a - 1 - r then 0 else P (i - (a - 1 - r))) = l * (if i < a - 1 - r then 0 else A (i - (a - 1 - r))) + 0 * _
        rw [Int.zero_mul, Int.add_zero]
        by_cases d : i < a - 1 - r
        · rw [if_pos d, if_pos d, Int.mul_zero]
        · rw [if_neg d, if_neg d, hP]
      · rw [if_neg c1]
        show (if r < u + 1 then pz_sh (a - 1 - r) P else srow a b A B r) = if r < u then pz_sh (a - 1 - r) P else srow a b A B r
        by_cases c2 : r < u
        · rw [if_pos c2, if_pos (by omega)]
        · rw [if_neg c2, if_neg (by omega)]
  intro x
  rw [← key a (Nat.le_refl a) x]
  refine congrFun (dp_congr _ _ (fun r hr => ?_)) x
  unfold srow
  by_cases c1 : r < a
  · rw [if_pos c1, if_pos c1]
  · rw [if_neg c1, if_neg c1, if_neg c1]
/-- the two blocks change places -/
theorem dp_mv1 (k c r : Nat) (L L' : Nat → pz_P) (hr : r + 1 ≤ k) (h1 : L' r = L (r + 1)) (h2 : L' (r + 1) = L r) (h3 : ∀ s, s ≤ k → s ≠ r → s ≠ r + 1 → L' s = L s) : pm (dp k c L') (dp k c L) := by
  refine Or.inr fun x => ?_
  have h := dp_swap k c r L hr (L r) (L (r + 1)) x
  rw [rup_self, rup_self] at h
  rw [← h]
  refine congrFun (dp_congr _ _ (fun s hs => ?_)) x
  unfold rup
  by_cases c1 : s = r + 1
  · rw [if_pos c1, c1, h2]
  · rw [if_neg c1]
    by_cases c2 : s = r
    · rw [if_pos c2, c2, h1]
    · rw [if_neg c2]
      exact h3 s hs c2 c1
/-- t rows of the second block lie ahead of the first one; one more row of it has come u places down -/
def smix (a t u : Nat) (X Y : Nat → pz_P) (r : Nat) : pz_P := if r < t then Y r else if r < t + (a - u) then X (r - t) else if r = t + (a - u) then Y t else if r < t + a + 1 then X (r - t - 1) else Y (r - a)
theorem dp_blocks {a b c : Nat} (X Y : Nat → pz_P) : ∀ t, t ≤ b → pm (dp (a + b - 1) c (fun r => if r < t then Y r else if r < t + a then X (r - t) else Y (r - a))) (dp (a + b - 1) c (fun r => if r < a then X r else Y (r - a)))
  | 0, _ => by
    refine Or.inl fun x => congrFun (dp_congr _ _ (fun r hr => ?_)) x
    rw [if_neg (Nat.not_lt_zero r), Nat.zero_add, Nat.sub_zero]
  | t + 1, ht => by
    have ih := dp_blocks (a := a) (b := b) (c := c) X Y t (by omega)
    have mv : ∀ u, u ≤ a → pm (dp (a + b - 1) c (smix a t u X Y)) (dp (a + b - 1) c (fun r => if r < t then Y r else if r < t + a then X (r - t) else Y (r - a))) := by
      intro u
      induction u with
      | zero =>
        intro _
        refine Or.inl fun x => congrFun (dp_congr _ _ (fun r hr => ?_)) x
        unfold smix
        by_cases c1 : r < t
        · rw [if_pos c1, if_pos c1]
        · rw [if_neg c1, if_neg c1, Nat.sub_zero]
          by_cases c2 : r < t + a
          · rw [if_pos c2, if_pos c2]
          · rw [if_neg c2, if_neg c2]
            by_cases c3 : r = t + a
            · rw [if_pos c3, c3, show t + a - a = t by omega]
            · rw [if_neg c3, if_neg (by omega)]
      | succ u ihu =>
        intro hu
        refine (dp_mv1 (a + b - 1) c (t + (a - (u + 1))) (smix a t u X Y) (smix a t (u + 1) X Y) (by omega) ?_ ?_ (fun s hs n1 n2 => ?_)).tr (ihu (by omega))
        · unfold smix
          rw [if_neg (by omega), if_neg (by omega), if_pos rfl, if_neg (by omega), if_neg (by omega), if_pos (by omega)]
        · unfold smix
          rw [if_neg (by omega), if_neg (by omega), if_neg (by omega), if_pos (by omega), if_neg (by omega), if_pos (by omega)]
          rw [show t + (a - (u + 1)) + 1 - t - 1 = t + (a - (u + 1)) - t by omega]
        · unfold smix
          by_cases c1 : s < t
          · rw [if_pos c1, if_pos c1]
          · rw [if_neg c1, if_neg c1]
            by_cases c2 : s < t + (a - (u + 1))
            · rw [if_pos c2, if_pos (by omega)]
            · rw [if_neg c2, if_neg n1, if_neg (show ¬ s < t + (a - u) by omega), if_neg (show ¬ s = t + (a - u) by omega)]
    refine pm.tr ?_ ((mv a (Nat.le_refl a)).tr ih)
    refine Or.inl fun x => congrFun (dp_congr _ _ (fun r hr => ?_)) x
    unfold smix
    simp only [Nat.sub_self, Nat.add_zero]
    by_cases c1 : r < t
    · rw [if_pos c1, if_pos (by omega)]
    · rw [if_neg c1, if_neg c1]
      by_cases c2 : r = t
      · rw [if_pos c2, if_pos (by omega), c2]
      · rw [if_neg c2, if_neg (by omega), show t + 1 + a = t + a + 1 by omega]
        by_cases c3 : r < t + a + 1
        · rw [if_pos c3, if_pos c3, show r - t - 1 = r - (t + 1) by omega]
        · rw [if_neg c3, if_neg c3]
theorem dp_turn {a b c : Nat} (hab : 1 ≤ a + b) (P Q : pz_P) : pm (dp (a + b - 1) c (srow a b P Q)) (dp (b + a - 1) c (srow b a Q P)) := by
  have h := dp_blocks (a := a) (b := b) (c := c) (fun r => pz_sh (a - 1 - r) P) (fun r => pz_sh (b - 1 - r) Q) b (Nat.le_refl b)
  have h1 : pm (dp (a + b - 1) c (srow a b P Q)) (dp (a + b - 1) c (fun r => if r < a then pz_sh (a - 1 - r) P else pz_sh (b - 1 - (r - a)) Q)) := by
    refine Or.inl fun x => congrFun (dp_congr _ _ (fun r hr => ?_)) x
    unfold srow
    by_cases c1 : r < a
    · rw [if_pos c1, if_pos c1]
    · rw [if_neg c1, if_neg c1, show a + b - 1 - r = b - 1 - (r - a) by omega]
  refine h1.tr (h.sy.tr ?_)
  rw [Nat.add_comm b a]
  refine Or.inl fun x => congrFun (dp_congr _ _ (fun r hr => ?_)) x
  unfold srow
  by_cases c1 : r < b
  · rw [if_pos c1, if_pos c1]
  · rw [if_neg c1, if_neg c1]
    by_cases c2 : r < b + a
    · rw [if_pos (by omega), show b + a - 1 - r = a - 1 - (r - b) by omega]
    · omega
/-- only rows of B: its leads, and B -/
theorem dp_tri {n : Nat} {A B : pz_P} (hB : ∀ i, n < i → B i = 0) : ∀ b : Nat, ∀ x, dp b (b + n) (srow 0 (b + 1) A B) x = (B n) ^ b * B x
  | 0, x => by
    show srow 0 1 A B 0 x = _
    unfold srow pz_sh
    rw [if_neg (Nat.lt_irrefl 0), Int.pow_zero, Int.one_mul]
    rfl
  | b + 1, x => by
    rw [dp_top (p := 0) (Nat.zero_le _) (fun r hr hn => ?_) x]
    · have e1 : srow 0 (b + 1 + 1) A B 0 (b + 1 + n) = B n := by
        unfold srow pz_sh
        rw [if_neg (Nat.lt_irrefl 0), if_neg (by omega), show b + 1 + n - (0 + (b + 1 + 1) - 1 - 0) = n by omega]
      have e2 : ∀ r, rsk1 0 (srow 0 (b + 1 + 1) A B) r = srow 0 (b + 1) A B r := fun r => by
        unfold rsk1 srow
        rw [if_neg (Nat.not_lt_zero _), if_neg (Nat.not_lt_zero _), if_neg (Nat.not_lt_zero _), show 0 + (b + 1 + 1) - 1 - (r + 1) = 0 + (b + 1) - 1 - r by omega]
      rw [e1, funext e2, show b + 1 + n - 1 = b + n by omega, dp_tri hB b x]
      show 1 * B n * _ = _
      rw [Int.one_mul, Int.pow_succ, ← Int.mul_assoc, Int.mul_comm (B n) ((B n) ^ b)]
    · unfold srow pz_sh
      rw [if_neg (Nat.not_lt_zero _), if_neg (by omega)]
      exact hB _ (by omega)
/-! The row of remainders, each divided by what is known to divide it: the subresultants. -/
/-- a rows of A and b rows of B, n the degree of B -/
def SB (a b n : Nat) (A B : pz_P) : pz_P := dp (a + b - 1) (b + n - 1) (srow a b A B)
/-- X and Y are neighbours of the row of A and B -/
def SI (A B : pz_P) (m n : Nat) (X Y : pz_P) (dx dy : Nat) (la ps : Int) : Prop := ∀ j, j ≤ dy → j < dx → pm (SB (dy - j) (dx - j) dy X Y) (pz_sc (la ^ (dy - j) * ps ^ (dx - j - 1)) (SB (n - j) (m - j) n A B))
theorem SI.start (A B : pz_P) (m n : Nat) : SI A B m n A B m n 1 1 := fun j _ _ => Or.inl fun x => by
  show _ = (1 ^ (n - j) * 1 ^ (m - j - 1)) * _
  rw [Int.one_pow, Int.one_pow, Int.one_mul, Int.one_mul]
/-- R comes out of X by eliminating with Y -/
def SE (X Y R : pz_P) (dx dy : Nat) : Prop := ∀ a b c : Nat, 1 ≤ a → a + (dx - dy) ≤ b → ∀ x, dp (a + b - 1) c (srow a b R Y) x = ((Y dy) ^ (dx - dy + 1)) ^ a * dp (a + b - 1) c (srow a b X Y) x
theorem pz_sc_pm {f g : pz_P} {a b : Int} (h : a = b ∨ a = -b) (q : pm f g) : pm (pz_sc a f) (pz_sc b g) := by
  rcases h with h | h
  · rw [h]
    exact q.sc b
  · refine (q.sc a).tr (Or.inr fun x => ?_)
    show a * g x = -(b * g x)
    rw [h, Int.neg_mul]
theorem Int.pow_ab (l : Int) (k : Nat) : l ^ k = ((l.natAbs : Nat) : Int) ^ k ∨ l ^ k = -((l.natAbs : Nat) : Int) ^ k := by
  have e := Int.natAbs_eq l
  generalize ((l.natAbs : Nat) : Int) = w at e
  induction k with
  | zero => exact Or.inl (by rw [Int.pow_zero, Int.pow_zero])
  | succ k ih =>
    rw [Int.pow_succ, Int.pow_succ]
    rcases e with e | e <;> rcases ih with h | h <;> rw [h, e]
    · exact Or.inl rfl
    · exact Or.inr (Int.neg_mul _ _)
    · exact Or.inr (Int.mul_neg _ _)
    · exact Or.inl (by rw [Int.mul_neg, Int.neg_mul, Int.neg_neg])
/-- the remainder is a known number times a subresultant -/
theorem SI.exact {A B X Y R : pz_P} {m n dx dy : Nat} {la ps : Int} (I : SI A B m n X Y dx dy la ps) (hd : dy ≤ dx) (h1 : 1 ≤ dy) (hY : ∀ i, dy < i → Y i = 0) (hl : Y dy ≠ 0) (E : SE X Y R dx dy) (hR : ∀ i, dy ≤ i → R i = 0) : pm R (pz_sc (la * ps ^ (dx - dy)) (SB (n - (dy - 1)) (m - (dy - 1)) n A B)) := by
  have i1 := I (dy - 1) (by omega) (by omega)
  rw [show dy - (dy - 1) = 1 by omega, show dx - (dy - 1) = 0 + (dx - dy + 1) by omega, show 0 + (dx - dy + 1) - 1 = dx - dy by omega, Int.pow_one] at i1
  have e1 := E 1 (0 + (dx - dy + 1)) (0 + (dx - dy + 1) + dy - 1) (Nat.le_refl 1) (by omega)
  have p1 := dp_peel (a := 1) (b := 0) (n := dy) (R := R) (B := Y) (Nat.le_refl 1) hY (dx - dy + 1) (fun i hi => hR i (by omega)) (by omega)
  have hp : (Y dy) ^ (dx - dy + 1) ≠ 0 := Int.pow_ne_zero hl
  have r1 : ∀ x, dp (1 + 0 - 1) (0 + dy - 1) (srow 1 0 R Y) x = R x := fun x => by
    show srow 1 0 R Y 0 x = R x
    unfold srow pz_sh
    rw [if_pos (by decide), if_neg (by omega)]
    rfl
  have k1 : pm (pz_sc ((Y dy) ^ (dx - dy + 1)) (SB 1 (0 + (dx - dy + 1)) dy X Y)) (pz_sc ((Y dy) ^ (dx - dy + 1)) R) := by
    refine pm.tr (Or.inl fun x => ?_) (p1.tr (Or.inl fun x => ?_))
    · rw [e1 x, Int.pow_one]
      rfl
    · show _ * _ = _ * _
      rw [r1]
  exact ((k1.un hp).sy).tr i1
/-- the number that is known next -/
theorem SI.known {A B X Y : pz_P} {m n dx dy : Nat} {la ps : Int} (I : SI A B m n X Y dx dy la ps) (hd : dy < dx) (hY : ∀ i, dy < i → Y i = 0) : (Y dy).natAbs ^ (dx - dy) = ps.natAbs ^ (dx - dy - 1) * (SB (n - dy) (m - dy) n A B dy).natAbs := by
  have i1 := I dy (Nat.le_refl dy) hd
  rw [Nat.sub_self, Int.pow_zero, Int.one_mul] at i1
  obtain ⟨d, hdd⟩ : ∃ d, dx - dy = d + 1 := ⟨dx - dy - 1, by omega⟩
  rw [hdd] at i1 ⊢
  rw [Nat.add_sub_cancel] at i1 ⊢
  have t1 := dp_tri (A := X) hY d dy
  have e1 : SB 0 (d + 1) dy X Y dy = (Y dy) ^ d * Y dy := by
    unfold SB
    rw [show 0 + (d + 1) - 1 = d by omega, show d + 1 + dy - 1 = d + dy by omega]
    exact t1
  have e2 : (SB 0 (d + 1) dy X Y dy).natAbs = (ps ^ d * SB (n - dy) (m - dy) n A B dy).natAbs := by
    rcases i1 with h | h
    · rw [h dy]
      rfl
    · rw [h dy, Int.natAbs_neg]
      rfl
  rw [e1, Int.natAbs_mul, Int.natAbs_pow, Int.natAbs_mul, Int.natAbs_pow] at e2
  rw [Nat.pow_succ]
  exact e2
theorem SI.step {A B X Y R F : pz_P} {m n dx dy rr : Nat} {la ps la' ps' : Int} (I : SI A B m n X Y dx dy la ps) (hd : dy ≤ dx) (hr : rr < dy) (hY : ∀ i, dy < i → Y i = 0) (hl : Y dy ≠ 0) (E : SE X Y R dx dy) (hR : ∀ i, rr < i → R i = 0) (hF : pm R (pz_sc (la * ps ^ (dx - dy)) F)) (hla0 : la ≠ 0) (hps0 : ps ≠ 0) (hla : la' = ((Y dy).natAbs : Nat)) (hps : (dx = dy ∧ ps = 1 ∧ ps' = 1) ∨ (dy < dx ∧ la' ^ (dx - dy) = ps ^ (dx - dy - 1) * ps')) : SI A B m n Y F dy rr la' ps' := by
  intro j hj _
  obtain ⟨t, ht⟩ : ∃ t, dy - j = t + 1 := ⟨dy - j - 1, by omega⟩
  obtain ⟨δ, hδ⟩ : ∃ δ, dx - dy = δ := ⟨_, rfl⟩
  have hla'0 : la' ≠ 0 := by rw [hla]; omega
  have i1 := I j (by omega) (by omega)
  rw [ht, show dx - j = rr - j + (dx - rr) by omega, show rr - j + (dx - rr) - 1 = δ + t by omega] at i1
  have e1 := E (t + 1) (rr - j + (dx - rr)) (rr - j + (dx - rr) + dy - 1) (by omega) (by omega)
  have p1 := dp_peel (a := t + 1) (b := rr - j) (n := dy) (R := R) (B := Y) (by omega) hY (dx - rr) (fun i hi => hR i (by omega)) (by omega)
  -- R is F, taken times, up to the sign
  have s1 : pm (dp (t + 1 + (rr - j) - 1) (rr - j + dy - 1) (srow (t + 1) (rr - j) R Y)) (pz_sc ((la * ps ^ δ) ^ (t + 1)) (dp (t + 1 + (rr - j) - 1) (rr - j + dy - 1) (srow (t + 1) (rr - j) F Y))) := by
    rw [hδ] at hF
    rcases hF with h | h
    · exact Or.inl fun x => dp_scA (l := la * ps ^ δ) (fun i => h i) (by omega) x
    · have h2 := dp_scA (a := t + 1) (b := rr - j) (c := rr - j + dy - 1) (A := F) (B := Y) (P := R) (l := -(la * ps ^ δ)) (fun i => by rw [h i, Int.neg_mul]; rfl) (by omega)
      have h3 : (-(la * ps ^ δ)) ^ (t + 1) = (la * ps ^ δ) ^ (t + 1) ∨ (-(la * ps ^ δ)) ^ (t + 1) = -(la * ps ^ δ) ^ (t + 1) := by
        generalize la * ps ^ δ = w
        have q1 := Int.pow_ab (-w) (t + 1)
        have q2 := Int.pow_ab w (t + 1)
        rw [Int.natAbs_neg] at q1
        rcases q1 with q1 | q1 <;> rcases q2 with q2 | q2 <;> omega
      exact pm.tr (Or.inl h2) (pz_sc_pm h3 (pm.rf _))
  have t1 := dp_turn (a := t + 1) (b := rr - j) (c := rr - j + dy - 1) (by omega) F Y
  have e4 : dp (rr - j + (t + 1) - 1) (rr - j + dy - 1) (srow (rr - j) (t + 1) Y F) = SB (rr - j) (t + 1) rr Y F := by
    unfold SB
    rw [show rr - j + dy - 1 = t + 1 + rr - 1 by omega]
  rw [e4] at t1
  have big : pm (pz_sc (((Y dy) ^ (δ + 1)) ^ (t + 1)) (pz_sc (la ^ (t + 1) * ps ^ (δ + t)) (SB (n - j) (m - j) n A B))) (pz_sc ((Y dy) ^ (dx - rr)) (pz_sc ((la * ps ^ δ) ^ (t + 1)) (SB (rr - j) (t + 1) rr Y F))) := by
    refine ((i1.sc (((Y dy) ^ (δ + 1)) ^ (t + 1))).sy).tr ?_
    refine pm.tr (Or.inl fun x => ?_) (p1.tr (((s1.tr (t1.sc _))).sc _))
    rw [hδ] at e1
    exact (e1 x).symm
  rw [pz_sc_sc, pz_sc_sc, ← Int.pow_mul] at big
  have big2 : pm (pz_sc (la' ^ ((δ + 1) * (t + 1)) * (la ^ (t + 1) * ps ^ (δ + t))) (SB (n - j) (m - j) n A B)) (pz_sc (la' ^ (dx - rr) * (la * ps ^ δ) ^ (t + 1)) (SB (rr - j) (t + 1) rr Y F)) := by
    have c1 : la' ^ ((δ + 1) * (t + 1)) * (la ^ (t + 1) * ps ^ (δ + t)) = (Y dy) ^ ((δ + 1) * (t + 1)) * (la ^ (t + 1) * ps ^ (δ + t)) ∨ la' ^ ((δ + 1) * (t + 1)) * (la ^ (t + 1) * ps ^ (δ + t)) = -((Y dy) ^ ((δ + 1) * (t + 1)) * (la ^ (t + 1) * ps ^ (δ + t))) := by
      rw [hla]
      rcases Int.pow_ab (Y dy) ((δ + 1) * (t + 1)) with q | q
      · left; rw [q]
      · right; rw [q, Int.neg_mul, Int.neg_neg]
    have c2 : (Y dy) ^ (dx - rr) * (la * ps ^ δ) ^ (t + 1) = la' ^ (dx - rr) * (la * ps ^ δ) ^ (t + 1) ∨ (Y dy) ^ (dx - rr) * (la * ps ^ δ) ^ (t + 1) = -(la' ^ (dx - rr) * (la * ps ^ δ) ^ (t + 1)) := by
      rw [hla]
      rcases Int.pow_ab (Y dy) (dx - rr) with q | q
      · left; rw [q]
      · right; rw [q, Int.neg_mul]
    exact ((pz_sc_pm c1 (pm.rf _)).tr big).tr (pz_sc_pm c2 (pm.rf _))
  -- the numbers
  have num : la' ^ ((δ + 1) * (t + 1)) * (la ^ (t + 1) * ps ^ (δ + t)) = la' ^ (dx - rr) * (la * ps ^ δ) ^ (t + 1) * (la' ^ (rr - j) * ps' ^ t) := by
    rw [Int.mul_pow, ← Int.pow_mul]
    have l1 : la' ^ ((δ + 1) * (t + 1)) = la' ^ (dx - rr) * la' ^ (rr - j) * la' ^ (δ * t) := by
      rw [← Int.pow_add, ← Int.pow_add]
      congr 1
      rw [Nat.add_mul, Nat.mul_add]
      omega
    have l2 : la' ^ (δ * t) * ps ^ (δ + t) = ps ^ (δ * (t + 1)) * ps' ^ t := by
      rcases hps with ⟨q1, q2, q3⟩ | ⟨q1, q2⟩
      · have d0 : δ = 0 := by omega
        subst d0
        rw [q2, q3, Nat.zero_mul, Nat.zero_mul, Int.one_pow, Int.one_pow, Int.pow_zero, Int.one_pow]
      · rw [hδ] at q2
        obtain ⟨d, rfl⟩ : ∃ d, δ = d + 1 := ⟨δ - 1, by omega⟩
        rw [Nat.add_sub_cancel] at q2
        rw [Int.pow_mul, q2, Int.mul_pow, ← Int.pow_mul]
        have q3 : ps ^ ((d + 1) * (t + 1)) = ps ^ (d * t) * ps ^ (d + 1 + t) := by
          rw [← Int.pow_add]
          congr 1
          rw [Nat.add_mul, Nat.mul_add]
          omega
        rw [q3]
        ac_rfl
    rw [l1]
    have l3 : la' ^ (dx - rr) * la' ^ (rr - j) * la' ^ (δ * t) * (la ^ (t + 1) * ps ^ (δ + t)) = la' ^ (dx - rr) * la' ^ (rr - j) * la ^ (t + 1) * (la' ^ (δ * t) * ps ^ (δ + t)) := by ac_rfl
    rw [l3, l2]
    ac_rfl
  rw [num] at big2
  have hne : la' ^ (dx - rr) * (la * ps ^ δ) ^ (t + 1) ≠ 0 := Int.mul_ne_zero (Int.pow_ne_zero hla'0) (Int.pow_ne_zero (Int.mul_ne_zero hla0 (Int.pow_ne_zero hps0)))
  rw [← pz_sc_sc] at big2
  have fin := big2.un hne
  rw [ht, Nat.add_sub_cancel]
  exact fin.sy
/-! The class's memory: V what the whole numbers at their places are (at 170 the divisor), X what all other cells hold. -/
/-- a whole number at a place, with so many limbs of room -/
def wW (h : mj_H) (a n : Nat) (v : Int) : Prop := ∃ q : Nat → Int32, h[a]? = some (.inr (8, [.ref (a + 1), .int (jn (jnl v.natAbs : Nat)), .int (jn (jsg v))])) ∧ h[a + 1]? = some (.inl (0, n, fun j => .int (q j))) ∧ (∀ j, j < jnl v.natAbs → q j = jn (jlb v.natAbs j : Nat)) ∧ jnl v.natAbs ≤ n
/-- a Wide of which no more is known than that it is one -/
def wT (h : mj_H) (a n : Nat) : Prop := ∃ (q : Nat → Int32) (s0 : Nat) (g0 : Int32), s0 ≤ 1000 ∧ h[a]? = some (.inr (8, [.ref (a + 1), .int (jn (s0 : Nat)), .int g0])) ∧ h[a + 1]? = some (.inl (0, n, fun j => .int (q j)))
def dT (h : mj_H) (a n : Nat) : Prop := ∃ (q : Nat → Int32) (s0 : Nat) (g0 : Int32) (f0 : Int64), s0 ≤ 60 ∧ h[a]? = some (.inr (2, [.ref (a + 1), .int (jn (s0 : Nat)), .int g0, .long f0])) ∧ h[a + 1]? = some (.inl (0, n, fun j => .int (q j)))
def wD (h : mj_H) (a n : Nat) (v : Int) : Prop := ∃ q : Nat → Int32, h[a]? = some (.inr (2, [.ref (a + 1), .int (jn (jnl v.natAbs : Nat)), .int (jn (jsg v)), .long (jl (jfa v.natAbs : Nat))])) ∧ h[a + 1]? = some (.inl (0, n, fun j => .int (q j))) ∧ (∀ j, j < jnl v.natAbs → q j = jn (jlb (v.natAbs * jfa v.natAbs) j : Nat)) ∧ jnl v.natAbs ≤ n
/-- a Wide holds the number, or nothing is told of it: where the number has more limbs than any Wide takes -/
def wX (h : mj_H) (a n : Nat) (v : Int) : Prop := wT h a n ∧ (jnl v.natAbs ≤ 1500 → wW h a n v)
def dX (h : mj_H) (a n : Nat) (v : Int) : Prop := dT h a n ∧ (jnl v.natAbs ≤ 1500 → wD h a n v)
/-- the coefficients of a polynomial are known -/
def pcl (V : Nat → Int) (p : Nat) : Prop := ∀ i, i < cL (p + 3) → jnl (V (p + 4 + 2 * i)).natAbs ≤ 1500
theorem wW.T {h : mj_H} {a n : Nat} {v : Int} (hn : n ≤ 1000) (w : wW h a n v) : wT h a n := by
  obtain ⟨q, h1, h2, _, h4⟩ := w
  exact ⟨q, _, _, by omega, h1, h2⟩
theorem wD.T {h : mj_H} {a n : Nat} {v : Int} (hn : n ≤ 60) (w : wD h a n v) : dT h a n := by
  obtain ⟨q, h1, h2, _, h4⟩ := w
  exact ⟨q, _, _, _, by omega, h1, h2⟩
theorem wT.lt {h : mj_H} {a m : Nat} (w : wT h a m) : a + 1 < h.length := by
  obtain ⟨q, _, _, _, _, h2⟩ := w
  exact (List.getElem?_eq_some_iff.mp h2).1
theorem dT.lt {h : mj_H} {a m : Nat} (w : dT h a m) : a + 1 < h.length := by
  obtain ⟨q, _, _, _, _, _, h2⟩ := w
  exact (List.getElem?_eq_some_iff.mp h2).1
/-- the polynomials of the row of Sturm -/
def sro (i : Nat) : Nat := [180, 210, 240, 268, 294, 318, 340, 360, 378, 394, 408, 420, 430, 438].getD i 0
/-- the fields of an object -/
def jMf (X : Nat → Nat → Int) (k a : Nat) : List Value := match k with
  | 10 => [.ref (a + 1), .ref (a + 8), .ref (a + 9), .int (jn (X a 3))]
  | 11 => [.ref 20, .ref 50, .ref 80, .ref 110, .ref 164, .ref 166, .ref 168, .ref 170]
  | 13 => [.ref (a + 3), .ref (a + 1), .int (jn (X a 2))]
  | 14 => [.ref 19, .ref (X a 1).toNat, .int (jn (X a 2)), .int (jn (X a 3)), .int (jn (X a 4)), .ref 456, .ref 466, .ref 476]
  | 15 => [.ref 19, .ref 172, .int (jn (X a 2)), .int (jn (X a 3)), .int (jn (X a 4)), .long (jl (X a 5)), .ref 445, .int (jn (X a 7)), .ref 447, .ref 449, .ref 451, .ref 453]
  | 16 => [.ref 19, .ref 173, .int (jn (X a 2)), .ref 174, .ref 176, .ref 178]
  | 19 => [.ref 2, .ref 12, .int (jn (X a 2)), .int (jn (X a 3)), .ref 13, .ref 15, .ref 17, .ref 19, .ref 172, .ref 444, .ref 455, .ref 477, .ref 479, .ref 481, .ref 482, .int (jn (X a 15))]
  | _ => [.ref (a + 1), .int (jn (X a 1))]
/-- what an array of arrays or objects holds -/
def jMg (k a i : Nat) : Nat := match k with
  | 4 => a + 1 + 2 * i
  | 5 => sro i
  | 6 => a + 1 + i
  | _ => 483 + 10 * i
def jMk (V : Nat → Int) (X : Nat → Nat → Int) (h : mj_H) (k a : Nat) : Prop :=
  if k = 0 then True
  else if k = 18 then wX h a (cL (a + 1)) (V a)
  else if k = 12 then dX h a (cL (a + 1)) (V a)
  else if k = 1 then (cK (a - 1) = 18 ∨ cK (a - 1) = 12) ∨ h[a]? = some (.inl (0, cL a, fun j => .int (jn (X a j))))
  else if k = 2 then h[a]? = some (.inl (1, 13, fun j => .long (jl (X a j))))
  else if k = 3 then h[a]? = some (.inl (2, cL a, fun j => .int (jn (X a j))))
  else if k ≤ 7 then ∃ f : Nat → Value, h[a]? = some (.inl (jak k, cL a, f)) ∧ ∀ i, i < cL a → f i = .ref (jMg k a i)
  else h[a]? = some (.inr (jkc k, jMf X k a))
/-- the class's cells hold that; the others are as in g -/
def jM (g : mj_H) (n : Nat) (V : Nat → Int) (X : Nat → Nat → Int) (h : mj_H) : Prop := h.length = n ∧ (∀ a, cK a = 0 → (a < g.length → h[a]? = g[a]?) ∧ (g.length ≤ a → a < n → h[a]? = some (.inr (99, [.null, .null, .null, .null, .null, .null])))) ∧ ∀ a, jMk V X h (cK a) a
def xup (X : Nat → Nat → Int) (a i : Nat) (v : Int) : Nat → Nat → Int := fun b j => if b = a ∧ j = i then v else X b j
theorem xup_at (X : Nat → Nat → Int) (a i : Nat) (v : Int) : xup X a i v a i = v := if_pos ⟨rfl, rfl⟩
theorem xup_ne (X : Nat → Nat → Int) {a i b j : Nat} (v : Int) (h : b ≠ a ∨ j ≠ i) : xup X a i v b j = X b j := if_neg (by omega)
/-- kinds, place by place -/
theorem mK_1 : ((List.range 563).all (fun a => !(decide (cK a = 18) || decide (cK a = 12)) || (decide (cK (a + 1) = 1) && decide (cL (a + 1) ≤ 1000) && decide (1 ≤ cL (a + 1))))) = true := by decide +kernel
theorem mK_2 : ((List.range 563).all (fun a => !(decide (cK a = 13)) || (decide (cK (a + 1) = 18) && decide (cK (a + 3) = 4) && decide (cL (a + 3) ≤ 25) && decide (1 ≤ cL (a + 3)) && (List.range (cL (a + 3))).all fun i => decide (cK (a + 4 + 2 * i) = 18)))) = true := by decide +kernel
theorem mK_3 : ((List.range 563).all (fun a => !(decide (cK a = 2)) || decide (cL a = 13))) = true := by decide +kernel
theorem mK_0 : ((List.range 563).all (fun a => !(decide (cK a = 12)) || decide (cL (a + 1) = 60))) = true := by decide +kernel
theorem mK_d {a : Nat} (h : cK a = 12) : cL (a + 1) = 60 := by
  have h1 := jall mK_0 (cK_in (a := a) (by omega))
  simpa [h] using h1
theorem mK_w {a : Nat} (h : cK a = 18 ∨ cK a = 12) : cK (a + 1) = 1 ∧ cL (a + 1) ≤ 1000 ∧ 1 ≤ cL (a + 1) := by
  have h1 := jall mK_1 (cK_in (a := a) (by omega))
  rcases h with h | h <;> simpa [h, and_assoc] using h1
theorem mK_p {a : Nat} (h : cK a = 13) : cK (a + 1) = 18 ∧ cK (a + 3) = 4 ∧ (1 ≤ cL (a + 3) ∧ cL (a + 3) ≤ 25) ∧ ∀ i, i < cL (a + 3) → cK (a + 4 + 2 * i) = 18 := by
  have h1 := jall mK_2 (cK_in (a := a) (by omega))
  simp only [h, decide_true, Bool.not_true, Bool.false_or, Bool.and_eq_true, decide_eq_true_eq] at h1
  exact ⟨h1.1.1.1.1, h1.1.1.1.2, ⟨h1.1.2, h1.1.1.2⟩, fun i hi => of_decide_eq_true (jall h1.2 hi)⟩
section JMM
variable {g h : mj_H} {n : Nat} {V : Nat → Int} {X : Nat → Nat → Int}
theorem jM.W (M : jM g n V X h) {a : Nat} (ka : cK a = 18) (hcl : jnl (V a).natAbs ≤ 1500 := by omega) : wW h a (cL (a + 1)) (V a) := by
  have := M.2.2 a
  rw [ka] at this
  exact (show wX h a (cL (a + 1)) (V a) from this).2 hcl
theorem jM.T (M : jM g n V X h) {a : Nat} (ka : cK a = 18) : wT h a (cL (a + 1)) := by
  have := M.2.2 a
  rw [ka] at this
  exact (show wX h a (cL (a + 1)) (V a) from this).1
theorem jM.D (M : jM g n V X h) {a : Nat} (ka : cK a = 12) (hcl : jnl (V a).natAbs ≤ 1500 := by omega) : wD h a (cL (a + 1)) (V a) := by
  have := M.2.2 a
  rw [ka] at this
  exact (show dX h a (cL (a + 1)) (V a) from this).2 hcl
theorem jM.DT (M : jM g n V X h) {a : Nat} (ka : cK a = 12) : dT h a (cL (a + 1)) := by
  have := M.2.2 a
  rw [ka] at this
  exact (show dX h a (cL (a + 1)) (V a) from this).1
theorem jM.L (M : jM g n V X h) {a : Nat} (ka : cK a = 2) : h[a]? = some (.inl (1, 13, fun j => .long (jl (X a j)))) := by
  have := M.2.2 a
  rw [ka] at this
  exact this
theorem jM.O (M : jM g n V X h) {a : Nat} (k : Nat) (ka : cK a = k) (hk : 7 < k ∧ k ≠ 18 ∧ k ≠ 12) : h[a]? = some (.inr (jkc k, jMf X k a)) := by
  have := M.2.2 a
  unfold jMk at this
  rw [ka, if_neg (by omega), if_neg (by omega), if_neg (by omega), if_neg (by omega), if_neg (by omega), if_neg (by omega), if_neg (by omega)] at this
  exact this
theorem jM.A (M : jM g n V X h) {a : Nat} (k : Nat) (ka : cK a = k) (hk : 4 ≤ k ∧ k ≤ 7) : ∃ f : Nat → Value, h[a]? = some (.inl (jak k, cL a, f)) ∧ ∀ i, i < cL a → f i = .ref (jMg k a i) := by
  have := M.2.2 a
  unfold jMk at this
  rw [ka, if_neg (by omega), if_neg (by omega), if_neg (by omega), if_neg (by omega), if_neg (by omega), if_neg (by omega), if_pos (by omega)] at this
  exact this
/-- some cells are exchanged -/
theorem jM.up (M : jM g n V X h) {h' : mj_H} {V' : Nat → Int} {X' : Nat → Nat → Int} (S : Nat → Prop) (hl : h'.length = h.length) (hS : ∀ a, S a → cK a ≠ 0) (hf : ∀ p, ¬ S p → h'[p]? = h[p]?) (hV : ∀ a, ¬ S a → V' a = V a) (hX : ∀ a, ¬ S a → X' a = X a) (hc : ∀ a, cK a = 18 ∨ cK a = 12 → (S a ↔ S (a + 1))) (hn : ∀ a, S a → jMk V' X' h' (cK a) a) : jM g n V' X' h' := by
  refine ⟨by rw [hl]; exact M.1, fun a ha => ?_, fun a => ?_⟩
  · have : ¬ S a := fun q => hS a q ha
    rw [hf a this]
    exact M.2.1 a ha
  · by_cases q : S a
    · exact hn a q
    · have h1 := M.2.2 a
      have e1 := hf a q
      unfold jMk at h1 ⊢
      by_cases k0 : cK a = 0
      · rw [if_pos k0]
        trivial
      rw [if_neg k0] at h1 ⊢
      by_cases k18 : cK a = 18
      · rw [if_pos k18] at h1 ⊢
        have e2 := hf (a + 1) (fun w => q ((hc a (Or.inl k18)).mpr w))
        unfold wX wT wW at h1 ⊢
        rw [e1, e2, hV a q]
        exact h1
      rw [if_neg k18] at h1 ⊢
      by_cases k12 : cK a = 12
      · rw [if_pos k12] at h1 ⊢
        have e2 := hf (a + 1) (fun w => q ((hc a (Or.inr k12)).mpr w))
        unfold dX dT wD at h1 ⊢
        rw [e1, e2, hV a q]
        exact h1
      rw [if_neg k12] at h1 ⊢
      have ef : ∀ k, jMf X' k a = jMf X k a := fun k => by
        unfold jMf
        rw [hX a q]
      rw [e1, hX a q, ef]
      exact h1
theorem wW_set {h : mj_H} {a m : Nat} {v : Int} {q : Nat → Int32} (ha : a + 1 < h.length) (hq : ∀ j, j < jnl v.natAbs → q j = jn (jlb v.natAbs j : Nat)) (hm : jnl v.natAbs ≤ m) : wW ((h.set a (.inr (8, [.ref (a + 1), .int (jn (jnl v.natAbs : Nat)), .int (jn (jsg v))]))).set (a + 1) (.inl (0, m, fun j => .int (q j)))) a m v := by
  refine ⟨q, ?_, ?_, hq, hm⟩
  · rw [List.getElem?_set_ne (by omega), List.getElem?_set_self (by omega)]
  · rw [List.getElem?_set_self (by rw [List.length_set]; omega)]
theorem wW.lt {h : mj_H} {a m : Nat} {v : Int} (w : wW h a m v) : a + 1 < h.length := by
  obtain ⟨q, _, h2, _⟩ := w
  exact (List.getElem?_eq_some_iff.mp h2).1
theorem wD.lt {h : mj_H} {a m : Nat} {v : Int} (w : wD h a m v) : a + 1 < h.length := by
  obtain ⟨q, _, h2, _⟩ := w
  exact (List.getElem?_eq_some_iff.mp h2).1
/-- a whole number is exchanged -/
theorem jM.setW (M : jM g n V X h) {a : Nat} (ka : cK a = 18) {v : Int} {q : Nat → Int32} (hq : ∀ j, j < jnl v.natAbs → q j = jn (jlb v.natAbs j : Nat)) (hm : jnl v.natAbs ≤ cL (a + 1)) : jM g n (jvu V a v) X ((h.set a (.inr (8, [.ref (a + 1), .int (jn (jnl v.natAbs : Nat)), .int (jn (jsg v))]))).set (a + 1) (.inl (0, cL (a + 1), fun j => .int (q j)))) := by
  have k1 := mK_w (Or.inl ka)
  refine M.up (fun x => x = a ∨ x = a + 1) (by rw [List.length_set, List.length_set]) (fun x hx => ?_) (fun p hp => ?_) (fun x hx => jvu_ne _ _ _ (fun e => hx (Or.inl e))) (fun _ _ => rfl) (fun x hx => ?_) (fun x hx => ?_)
  · rcases hx with e | e <;> subst e <;> omega
  · rw [List.getElem?_set_ne (fun e => hp (Or.inr e.symm)), List.getElem?_set_ne (fun e => hp (Or.inl e.symm))]
  · constructor
    · intro q
      rcases q with e | e
      · exact Or.inr (by omega)
      · subst e
        omega
    · intro q
      rcases q with e | e
      · subst e
        have := mK_w hx
        omega
      · exact Or.inl (by omega)
  · rcases hx with e | e
    · subst e
      rw [ka]
      show wX _ x _ _
      rw [jvu_at]
      have w := wW_set (M.T ka).lt hq hm
      exact ⟨w.T k1.2.1, fun _ => w⟩
    · subst e
      rw [k1.1]
      show _ ∨ _
      exact Or.inl (Or.inl ka)
end JMM
/-! The whole numbers' methods over the class's memory. -/
theorem mj_Ok.lift {D j : Nat} {as : List Value} {K : mj_H} {Q : mj_R → Prop} (c : mj_Ok D j as K Q) (is : List Nat) {h : mj_H} (hlen : is.length = K.length) (hnd : is.Nodup) (hc : ∀ (i p : Nat) (e : mj_E), is[i]? = some p → K[i]? = some e → h[p]? = some (mj_rE (jrho is h.length) e)) (hK : ∀ r, Q r → r.2.length = K.length) :
    mj_Ok D j (as.map (mj_rn (jrho is h.length))) h (fun r => ∃ r0 K', Q (r0, K') ∧ r = (mj_rR (jrho is h.length) r0, jlay (mj_rE (jrho is h.length)) is K' h)) := mj_Ok.at c is hlen hnd (fun p hp => by
  obtain ⟨i, hi⟩ := List.getElem?_of_mem hp
  have hil := (List.getElem?_eq_some_iff.mp hi).1
  have hk : K[i]? = some (K[i]'(by omega)) := List.getElem?_eq_getElem (by omega)
  exact (List.getElem?_eq_some_iff.mp (hc i p _ hi hk)).1) hc hK
theorem mK_ne {a c : Nat} (ka : cK a = 18 ∨ cK a = 12) (kc : cK c = 18 ∨ cK c = 12) (h : a ≠ c) : a + 1 ≠ c ∧ a ≠ c + 1 ∧ a + 1 ≠ c + 1 := by
  have h1 := (mK_w ka).1
  have h2 := (mK_w kc).1
  refine ⟨fun e => ?_, fun e => ?_, by omega⟩
  · rw [e] at h1
    omega
  · rw [← e] at h2
    omega
theorem set_same {h : mj_H} {a : Nat} {e : mj_E} (he : h[a]? = some e) : h.set a e = h := by
  apply List.ext_getElem?
  intro i
  by_cases q : a = i
  · subst q
    rw [List.getElem?_set_self (List.getElem?_eq_some_iff.mp he).1, he]
  · rw [List.getElem?_set_ne q]
theorem set2_at {h : mj_H} {c a : Nat} {e1 e2 e : mj_E} (h1 : a ≠ c) (h2 : a ≠ c + 1) (he : h[a]? = some e) : ((h.set c e1).set (c + 1) e2)[a]? = some e := by
  rw [List.getElem?_set_ne (Ne.symm h2), List.getElem?_set_ne (Ne.symm h1)]
  exact he
theorem lay2 {h : mj_H} {c a : Nat} {e1 e2 A A' : mj_E} (n1 : a ≠ c) (n2 : a ≠ c + 1) (n3 : a + 1 ≠ c) (n4 : a + 1 ≠ c + 1) (a1 : h[a]? = some A) (a2 : h[a + 1]? = some A') : ((((h.set c e1).set (c + 1) e2).set a A).set (a + 1) A') = ((h.set c e1).set (c + 1) e2) := by
  rw [set_same (set2_at n1 n2 a1), set_same (set2_at n3 n4 a2)]
section MWW
variable {g h : mj_H} {n D : Nat} {V : Nat → Int} {X : Nat → Nat → Int}
theorem mW_setLong (M : jM g n V X h) {c : Nat} {v : Int} (kc : cK c = 18) (hv : jR v) (hm : jnl v.natAbs ≤ cL (c + 1)) : mj_Ok (D + 1) 86 [.ref c, .long (jl v)] h (fun r => ∃ h', jM g n (jvu V c v) X h' ∧ r = (.inl none, h')) := by
  obtain ⟨q, s0, g0, hs0, h1, h2⟩ := M.T kc
  have k1 := mK_w (Or.inl kc)
  refine ((jw_setLong (D := D) (n := cL (c + 1)) hv (s0 := jn (s0 : Nat)) (g0 := g0) (g := q) (by omega)).lift [c, c + 1] (h := h) rfl (by simp) (fun i p e hi he => ?_) (fun r hr => ?_)).to (fun r hr => ?_)
  · match i, hi, he with
    | 0, hi, he => cases hi; cases he; exact h1
    | 1, hi, he => cases hi; cases he; exact h2
    | i + 2, hi, he => simp at hi
  · obtain ⟨g', _, _, e⟩ := hr
    rw [e]
    rfl
  · obtain ⟨r0, K', ⟨g', q1, q2, q3⟩, hr⟩ := hr
    cases q3
    rw [Nat.min_eq_right hm] at q1 hr
    exact ⟨_, M.setW kc q1 hm, hr⟩
theorem mW_set (M : jM g n V X h) {c a : Nat} (kc : cK c = 18) (ka : cK a = 18) (hne : a ≠ c) (hm : jnl (V a).natAbs ≤ cL (c + 1)) : mj_Ok (D + 1) 87 [.ref c, .ref a] h (fun r => ∃ h', jM g n (jvu V c (V a)) X h' ∧ r = (.inl none, h')) := by
  obtain ⟨q, s0, g0, hs0, h1, h2⟩ := M.T kc
  have k1 := mK_w (Or.inl kc)
  obtain ⟨p, a1, a2, a3, a4⟩ := M.W ka
  have k2 := mK_w (Or.inl ka)
  have ne := mK_ne (Or.inl ka) (Or.inl kc) hne
  refine ((jw_set (D := D) (n := cL (c + 1)) (m := cL (a + 1)) (s := jnl (V a).natAbs) (sg := jsg (V a)) (s0 := jn (s0 : Nat)) (g0 := g0) (g := q) (q := p) (by omega) (by omega) a4).lift [c, c + 1, a, a + 1] (h := h) rfl (by simp; omega) (fun i p e hi he => ?_) (fun r hr => ?_)).to (fun r hr => ?_)
  · match i, hi, he with
    | 0, hi, he => cases hi; cases he; exact h1
    | 1, hi, he => cases hi; cases he; exact h2
    | 2, hi, he => cases hi; cases he; exact a1
    | 3, hi, he => cases hi; cases he; exact a2
    | i + 4, hi, he => simp at hi
  · obtain ⟨g', _, e⟩ := hr
    rw [e]
    rfl
  · obtain ⟨r0, K', ⟨g', q1, q3⟩, hr⟩ := hr
    cases q3
    rw [Nat.min_eq_left hm] at q1 hr
    have es : (if jnl (V a).natAbs = 0 then 0 else jsg (V a)) = jsg (V a) := by
      split
      · rename_i z
        have := jnl_eq0.mp z
        rw [show V a = 0 by omega]
        rfl
      · rfl
    rw [es] at hr
    refine ⟨_, M.setW kc (q := g') (fun j hj => by rw [q1 j hj, a3 j hj]) hm, hr.trans (congrArg (Prod.mk _) ?_)⟩
    show ((((h.set c _).set (c + 1) _).set a _).set (a + 1) _) = _
    exact lay2 hne ne.2.1 ne.1 ne.2.2 a1 a2
theorem mW_plus (M : jM g n V X h) {c a : Nat} {f : Int} (kc : cK c = 18) (ka : cK a = 18) (hne : a ≠ c) (hf : f = 1 ∨ f = -1) (hm : jnl (V a).natAbs ≤ cL (c + 1)) (hm2 : jnl (V c + f * V a).natAbs ≤ cL (c + 1)) : mj_Ok (D + 2) 91 [.ref c, .ref a, .int (jn f)] h (fun r => ∃ h', jM g n (jvu V c (V c + f * V a)) X h' ∧ r = (.inl none, h')) := by
  have k1 := mK_w (Or.inl kc)
  have hcc : jnl (V c).natAbs ≤ 1500 := by
    have b1 := jnl_le_lt.mp (Nat.le_trans hm k1.2.1)
    have b2 := jnl_le_lt.mp (Nat.le_trans hm2 k1.2.1)
    suffices b6 : jnl (V c).natAbs ≤ 1001 from Nat.le_trans b6 (by decide)
    refine jnl_le_lt.mpr ?_
    have b3 : (V c).natAbs ≤ (V c + f * V a).natAbs + (V a).natAbs := by
      rcases hf with e | e <;> subst e <;> omega
    have b4 : jB ^ 1001 = jB ^ 1000 * jB := Nat.pow_succ jB 1000
    have b5 : jB ^ 1000 * 2 ≤ jB ^ 1000 * jB := Nat.mul_le_mul_left _ (by decide)
    omega
  obtain ⟨q, h1, h2, h3, h4⟩ := M.W kc
  obtain ⟨p, a1, a2, a3, a4⟩ := M.W ka
  have k2 := mK_w (Or.inl ka)
  have ne := mK_ne (Or.inl ka) (Or.inl kc) hne
  refine ((jw_plus (D := D) (n := cL (c + 1)) (m := cL (a + 1)) (u := V c) (w := V a) (f := f) (g := q) (q := p) (by omega) (by omega) hf h4 a4 hm hm2 h3 a3).lift [c, c + 1, a, a + 1] (h := h) rfl (by simp; omega) (fun i p e hi he => ?_) (fun r hr => ?_)).to (fun r hr => ?_)
  · match i, hi, he with
    | 0, hi, he => cases hi; cases he; exact h1
    | 1, hi, he => cases hi; cases he; exact h2
    | 2, hi, he => cases hi; cases he; exact a1
    | 3, hi, he => cases hi; cases he; exact a2
    | i + 4, hi, he => simp at hi
  · obtain ⟨g', _, e⟩ := hr
    rw [e]
    rfl
  · obtain ⟨r0, K', ⟨g', q1, q3⟩, hr⟩ := hr
    cases q3
    refine ⟨_, M.setW kc (q := g') q1 hm2, hr.trans (congrArg (Prod.mk _) ?_)⟩
    show ((((h.set c _).set (c + 1) _).set a _).set (a + 1) _) = _
    exact lay2 hne ne.2.1 ne.1 ne.2.2 a1 a2
theorem mW_setProduct (M : jM g n V X h) {c a b : Nat} (kc : cK c = 18) (ka : cK a = 18) (kb : cK b = 18) (hne : a ≠ c) (hnb : b ≠ c) (hab : a ≠ b) (hm : jnl (V a * V b).natAbs ≤ cL (c + 1)) (hca : jnl (V a).natAbs ≤ 1500 := by omega) (hcb : jnl (V b).natAbs ≤ 1500 := by omega) : mj_Ok (D + 1) 95 [.ref c, .ref a, .ref b] h (fun r => ∃ h', jM g n (jvu V c (V a * V b)) X h' ∧ r = (.inl none, h')) := by
  obtain ⟨q, s0, g0, hs0, h1, h2⟩ := M.T kc
  obtain ⟨p, a1, a2, a3, a4⟩ := M.W ka
  obtain ⟨s, b1, b2, b3, b4⟩ := M.W kb
  have k1 := mK_w (Or.inl kc)
  have k2 := mK_w (Or.inl ka)
  have k3 := mK_w (Or.inl kb)
  have ne := mK_ne (Or.inl ka) (Or.inl kc) hne
  have nb := mK_ne (Or.inl kb) (Or.inl kc) hnb
  have nab := mK_ne (Or.inl ka) (Or.inl kb) hab
  refine ((jw_setProduct (D := D) (n := cL (c + 1)) (m1 := cL (a + 1)) (m2 := cL (b + 1)) (u := V a) (w := V b) (s0 := jn (s0 : Nat)) (g0 := g0) (g := q) (q1 := p) (q2 := s) (by omega) (by omega) (by omega) a4 b4 hm a3 b3).lift [c, c + 1, a, a + 1, b, b + 1] (h := h) rfl (by simp; omega) (fun i p e hi he => ?_) (fun r hr => ?_)).to (fun r hr => ?_)
  · match i, hi, he with
    | 0, hi, he => cases hi; cases he; exact h1
    | 1, hi, he => cases hi; cases he; exact h2
    | 2, hi, he => cases hi; cases he; exact a1
    | 3, hi, he => cases hi; cases he; exact a2
    | 4, hi, he => cases hi; cases he; exact b1
    | 5, hi, he => cases hi; cases he; exact b2
    | i + 6, hi, he => simp at hi
  · obtain ⟨g', _, e⟩ := hr
    rw [e]
    rfl
  · obtain ⟨r0, K', ⟨g', q1, q3⟩, hr⟩ := hr
    cases q3
    refine ⟨_, M.setW kc (q := g') q1 hm, hr.trans (congrArg (Prod.mk _) ?_)⟩
    show ((((((h.set c _).set (c + 1) _).set a _).set (a + 1) _).set b _).set (b + 1) _) = _
    refine Eq.trans (congrArg (fun z : mj_H => (z.set b _).set (b + 1) _) (lay2 hne ne.2.1 ne.1 ne.2.2 a1 a2)) (lay2 hnb nb.2.1 nb.1 nb.2.2 b1 b2)
theorem mW_scale (M : jM g n V X h) {c f : Nat} (kc : cK c = 18) (hf : 0 < f) (hf2 : f ≤ 1000000000) (hm : jnl (V c * (f : Int)).natAbs ≤ cL (c + 1)) : mj_Ok (D + 1) 96 [.ref c, .long (jl (f : Int))] h (fun r => ∃ h', jM g n (jvu V c (V c * (f : Int))) X h' ∧ r = (.inl none, h')) := by
  have k1 := mK_w (Or.inl kc)
  have ea : (V c * (f : Int)).natAbs = (V c).natAbs * f := by rw [Int.natAbs_mul, Int.natAbs_natCast]
  have hcc : jnl (V c).natAbs ≤ 1500 := by
    have q := jnl_mono (show (V c).natAbs ≤ (V c * (f : Int)).natAbs by rw [ea]; exact Nat.le_mul_of_pos_right _ hf)
    omega
  obtain ⟨q, h1, h2, h3, h4⟩ := M.W kc
  have es : jsg (V c * (f : Int)) = jsg (V c) := by
    unfold jsg
    have p1 : V c * (f : Int) < 0 ↔ V c < 0 := by
      constructor
      · intro q
        rcases Int.lt_or_le (V c) 0 with w | w
        · exact w
        · have := Int.mul_nonneg w (show (0 : Int) ≤ f by omega)
          omega
      · intro q
        exact Int.mul_neg_of_neg_of_pos q (by omega)
    have p2 : 0 < V c * (f : Int) ↔ 0 < V c := by
      constructor
      · intro q
        rcases Int.lt_or_le 0 (V c) with w | w
        · exact w
        · have := Int.mul_nonpos_of_nonpos_of_nonneg w (show (0 : Int) ≤ f by omega)
          omega
      · intro q
        exact Int.mul_pos q (by omega)
    simp only [p1, p2]
  rw [ea] at hm
  refine ((jw_scale (D := D) (n := cL (c + 1)) (x := (V c).natAbs) (f := f) (g0 := jn (jsg (V c))) (g := q) (by omega) hf hf2 hm h3).lift [c, c + 1] (h := h) rfl (by simp) (fun i p e hi he => ?_) (fun r hr => ?_)).to (fun r hr => ?_)
  · match i, hi, he with
    | 0, hi, he => cases hi; cases he; exact h1
    | 1, hi, he => cases hi; cases he; exact h2
    | i + 2, hi, he => simp at hi
  · obtain ⟨g', _, e⟩ := hr
    rw [e]
    rfl
  · obtain ⟨r0, K', ⟨g', q1, q3⟩, hr⟩ := hr
    cases q3
    have hs := M.setW kc (v := V c * (f : Int)) (q := g') (by rw [ea]; exact q1) (by rw [ea]; exact hm)
    rw [ea, es] at hs
    exact ⟨_, hs, hr⟩
theorem mW_cut (M : jM g n V X h) {c f : Nat} (kc : cK c = 18) (hf : 0 < f) (hf2 : f ≤ 1000000000) (hcc : jnl (V c).natAbs ≤ 1500 := by omega) : mj_Ok (D + 1) 97 [.ref c, .long (jl (f : Int))] h (fun r => ∃ h', jM g n (jvu V c ((V c).tdiv (f : Int))) X h' ∧ r = (.inl none, h')) := by
  obtain ⟨q, h1, h2, h3, h4⟩ := M.W kc
  have k1 := mK_w (Or.inl kc)
  have ea : ((V c).tdiv (f : Int)).natAbs = (V c).natAbs / f := by rw [Int.natAbs_tdiv, Int.natAbs_natCast]; rfl
  have es : jsg ((V c).tdiv (f : Int)) = if (V c).natAbs / f = 0 then 0 else jsg (V c) := by
    rw [jsg_tdiv, Int.natAbs_natCast, jsg_pos (v := (f : Int)) (by omega), Int.mul_one]
  refine ((jw_cut (D := D) (n := cL (c + 1)) (x := (V c).natAbs) (f := f) (s := jsg (V c)) (g := q) (by omega) hf hf2 h4 h3).lift [c, c + 1] (h := h) rfl (by simp) (fun i p e hi he => ?_) (fun r hr => ?_)).to (fun r hr => ?_)
  · match i, hi, he with
    | 0, hi, he => cases hi; cases he; exact h1
    | 1, hi, he => cases hi; cases he; exact h2
    | i + 2, hi, he => simp at hi
  · obtain ⟨g', _, e⟩ := hr
    rw [e]
    rfl
  · obtain ⟨r0, K', ⟨g', q1, q3⟩, hr⟩ := hr
    cases q3
    have hle : jnl ((V c).natAbs / f) ≤ jnl (V c).natAbs := jnl_mono (Nat.div_le_self _ _)
    have hs := M.setW kc (v := (V c).tdiv (f : Int)) (q := g') (by rw [ea]; exact fun j hj => q1 j (by omega)) (by rw [ea]; omega)
    rw [ea, es] at hs
    exact ⟨_, hs, hr⟩
end MWW
/-! Rules for the steps over the class's memory; the divisor. -/
section MTR
variable {g h : mj_H} {n D pc nm ci f r1 r2 r3 r4 r5 : Nat} {V : Nat → Int} {X : Nat → Nat → Int} {M : mj_M} {loc : mj_L} {st : List Value} {Q : mj_R → Prop}
theorem jM.setO (m : jM g n V X h) {a i k : Nat} {v : Int} (ka : cK a = k) (hk : 7 < k ∧ k ≠ 18 ∧ k ≠ 12) (he : jMf (xup X a i v) k a = (jMf X k a).set i (.int (jn v))) : jM g n V (xup X a i v) (h.set a (.inr (jkc k, (jMf X k a).set i (.int (jn v))))) := by
  have hl := (List.getElem?_eq_some_iff.mp (m.O k ka hk)).1
  refine m.up (fun x => x = a) (by rw [List.length_set]) (fun x hx => by subst hx; omega) (fun p hp => List.getElem?_set_ne (fun e => hp e.symm)) (fun _ _ => rfl) (fun x hx => funext fun j => xup_ne _ _ (Or.inl hx)) (fun x hx => ?_) (fun x hx => ?_)
  · have := mK_w hx
    constructor
    · intro e
      subst e
      omega
    · intro e
      rw [e] at this
      omega
  · subst hx
    unfold jMk
    rw [ka, if_neg (by omega), if_neg (by omega), if_neg (by omega), if_neg (by omega), if_neg (by omega), if_neg (by omega), if_neg (by omega), he, List.getElem?_set_self hl]
theorem mT_get (m : jM g n V X h) {a : Nat} (k : Nat) {v : Value} (ka : cK a = k) (hk : 7 < k ∧ k ≠ 18 ∧ k ≠ 12) (hc : M.2.2.2.2.1 pc = some (.getfield nm, jkc k, f, r3, r4, r5)) (hf : (jMf X k a)[f]? = some v) (q : mj_T D M (pc + 3) loc (v :: st) h Q) : mj_T D M pc loc (.ref a :: st) h Q := mj_T.gfl hc (m.O k ka hk) hf q
theorem mT_put (m : jM g n V X h) {a : Nat} (k : Nat) {v : Int} (ka : cK a = k) (hk : 7 < k ∧ k ≠ 18 ∧ k ≠ 12) (hc : M.2.2.2.2.1 pc = some (.putfield nm, jkc k, f, r3, r4, r5)) (he : jMf (xup X a f v) k a = (jMf X k a).set f (.int (jn v))) (hl : f < (jMf X k a).length) (hv : mj_fit r3 (.int (jn v)) = true) (q : ∀ h', jM g n V (xup X a f v) h' → mj_T D M (pc + 3) loc st h' Q) : mj_T D M pc loc (.int (jn v) :: .ref a :: st) h Q := mj_T.pfl hc (m.O k ka hk) hl hv (q _ (m.setO ka hk he))
theorem mT_sz (m : jM g n V X h) {a : Nat} (ka : cK a = 18) (hc : M.2.2.2.2.1 pc = some (.getfield nm, 8, 1, r3, r4, r5)) (q : mj_T D M (pc + 3) loc (.int (jn (jnl (V a).natAbs : Nat)) :: st) h Q) (hcl : jnl (V a).natAbs ≤ 1500 := by omega) : mj_T D M pc loc (.ref a :: st) h Q := by
  obtain ⟨p, h1, _⟩ := m.W ka
  exact mj_T.gfl hc h1 rfl q
theorem mT_sg (m : jM g n V X h) {a : Nat} (ka : cK a = 18) (hc : M.2.2.2.2.1 pc = some (.getfield nm, 8, 2, r3, r4, r5)) (q : mj_T D M (pc + 3) loc (.int (jn (jsg (V a))) :: st) h Q) (hcl : jnl (V a).natAbs ≤ 1500 := by omega) : mj_T D M pc loc (.ref a :: st) h Q := by
  obtain ⟨p, h1, _⟩ := m.W ka
  exact mj_T.gfl hc h1 rfl q
theorem jsg_ng (v w : Int) (hw : w.natAbs = v.natAbs) (h : jsg w = jsg v ∨ jsg w = - jsg v) : jnl w.natAbs = jnl v.natAbs := by rw [hw]
/-- the sign alone is exchanged -/
theorem mT_psg (m : jM g n V X h) {a : Nat} {s w : Int} (ka : cK a = 18) (hw : w.natAbs = (V a).natAbs) (hs : jsg w = s) (hc : M.2.2.2.2.1 pc = some (.putfield nm, 8, 2, 0, r4, r5)) (q : ∀ h', jM g n (jvu V a w) X h' → mj_T D M (pc + 3) loc st h' Q) (hcl : jnl (V a).natAbs ≤ 1500 := by omega) : mj_T D M pc loc (.int (jn s) :: .ref a :: st) h Q := by
  obtain ⟨p, h1, h2, h3, h4⟩ := m.W ka
  refine mj_T.pfl hc h1 (by decide : 2 < 3) rfl (q _ ?_)
  have hM := m.setW ka (v := w) (q := p) (by rw [hw]; exact h3) (by rw [hw]; exact h4)
  rw [hw, hs] at hM
  have e2 : ((h.set a (.inr (8, [.ref (a + 1), .int (jn (jnl (V a).natAbs : Nat)), .int (jn s)]))).set (a + 1) (.inl (0, cL (a + 1), fun j => .int (p j)))) = h.set a (.inr (8, [.ref (a + 1), .int (jn (jnl (V a).natAbs : Nat)), .int (jn s)])) := set_same (by rw [List.getElem?_set_ne (by omega)]; exact h2)
  rw [e2] at hM
  exact hM
theorem mT_lald (m : jM g n V X h) {a : Nat} {i : Int} (ka : cK a = 2) (hc : M.2.2.2.2.1 pc = some (.laload, r1, r2, r3, r4, r5)) (h0 : 0 ≤ i ∧ i < 13) (q : mj_T D M (pc + 1) loc (.long (jl (X a i.toNat)) :: st) h Q) : mj_T D M pc loc (.int (jn i) :: .ref a :: st) h Q := mj_T.lald (g := fun j => jl (X a j)) hc (m.L ka) ⟨by omega, by omega⟩ h0 q
theorem jM.setL (m : jM g n V X h) {a i : Nat} {v : Int} (ka : cK a = 2) : jM g n V (xup X a i v) (h.set a (.inl (1, 13, fun j => .long (if j = i then jl v else jl (X a j))))) := by
  have hl := (List.getElem?_eq_some_iff.mp (m.L ka)).1
  refine m.up (fun x => x = a) (by rw [List.length_set]) (fun x hx => by subst hx; omega) (fun p hp => List.getElem?_set_ne (fun e => hp e.symm)) (fun _ _ => rfl) (fun x hx => funext fun j => xup_ne _ _ (Or.inl hx)) (fun x hx => ?_) (fun x hx => ?_)
  · have := mK_w hx
    constructor
    · intro e
      subst e
      omega
    · intro e
      rw [e] at this
      omega
  · subst hx
    unfold jMk
    rw [ka, if_neg (by decide), if_neg (by decide), if_neg (by decide), if_neg (by decide), if_pos rfl, List.getElem?_set_self hl]
    congr 4
    funext j
    unfold xup
    by_cases q : j = i
    · rw [if_pos q, if_pos ⟨rfl, q⟩]
    · rw [if_neg q, if_neg (fun w => q w.2)]
theorem mT_last (m : jM g n V X h) {a : Nat} {i v : Int} (ka : cK a = 2) (hc : M.2.2.2.2.1 pc = some (.lastore, r1, r2, r3, r4, r5)) (h0 : 0 ≤ i ∧ i < 13) (q : ∀ h', jM g n V (xup X a i.toNat v) h' → mj_T D M (pc + 1) loc st h' Q) : mj_T D M pc loc (.long (jl v) :: .int (jn i) :: .ref a :: st) h Q := mj_T.last (g := fun j => jl (X a j)) hc (m.L ka) ⟨by omega, by omega⟩ h0 (q _ (m.setL ka))
theorem mT_aald (m : jM g n V X h) {a : Nat} {i : Int} (k : Nat) (ka : cK a = k) (hk : 4 ≤ k ∧ k ≤ 7) (hr : mj_isref (jak k) = true) (hc : M.2.2.2.2.1 pc = some (.aaload, r1, r2, r3, r4, r5)) (hi : i ≤ 1000) (h0 : 0 ≤ i ∧ i < (cL a : Int)) (q : mj_T D M (pc + 1) loc (.ref (jMg k a i.toNat) :: st) h Q) : mj_T D M pc loc (.int (jn i) :: .ref a :: st) h Q := by
  obtain ⟨p, h1, h2⟩ := m.A k ka hk
  refine mj_T.aald hc h1 hr ⟨by omega, by omega⟩ h0 ?_
  rw [h2 i.toNat (by omega)]
  exact q
theorem mT_alen (m : jM g n V X h) {a : Nat} (k : Nat) (ka : cK a = k) (hk : 4 ≤ k ∧ k ≤ 7) (hc : M.2.2.2.2.1 pc = some (.arraylength, r1, r2, r3, r4, r5)) (q : mj_T D M (pc + 1) loc (.int (jn (cL a : Nat)) :: st) h Q) : mj_T D M pc loc (.ref a :: st) h Q := by
  obtain ⟨p, h1, _⟩ := m.A k ka hk
  exact mj_T.alen hc h1 q
theorem mT_llen (m : jM g n V X h) {a : Nat} (ka : cK a = 2) (hc : M.2.2.2.2.1 pc = some (.arraylength, r1, r2, r3, r4, r5)) (q : mj_T D M (pc + 1) loc (.int (jn ((13 : Nat) : Int)) :: st) h Q) : mj_T D M pc loc (.ref a :: st) h Q := mj_T.alen hc (m.L ka) q
/-- the receiver of a call -/
theorem mV_of (m : jM g n V X h) {a : Nat} (k : Nat) {c q2 : Nat} (ka : cK a = k) (hk : 7 < k) (hcl : jkc k = c) (hr : 1 ≤ q2) (hd : st.drop (q2 - 1) = .ref a :: st.drop q2) : ∀ j, mj_recv (.invokevirtual j) q2 c st h = true := by
  intro j
  have ho : ∃ fs, h[a]? = some (.inr (c, fs)) := by
    by_cases k1 : k = 18
    · subst k1
      obtain ⟨p, _, _, _, h1, _⟩ := m.T ka
      exact ⟨_, by rw [h1, ← hcl]; rfl⟩
    · by_cases k2 : k = 12
      · subst k2
        obtain ⟨p, _, _, _, _, h1, _⟩ := m.DT ka
        exact ⟨_, by rw [h1, ← hcl]; rfl⟩
      · exact ⟨_, by rw [m.O k ka ⟨hk, k1, k2⟩, hcl]⟩
  obtain ⟨fs, ho⟩ := ho
  match q2, hr, hd with
  | q2 + 1, _, hd => simp only [mj_recv, hd, ho, decide_true]
end MTR
section MWD
variable {g h : mj_H} {n D : Nat} {V : Nat → Int} {X : Nat → Nat → Int}
theorem jM.setD (M : jM g n V X h) {a : Nat} (ka : cK a = 12) {v : Int} {q : Nat → Int32} (hq : ∀ j, j < jnl v.natAbs → q j = jn (jlb (v.natAbs * jfa v.natAbs) j : Nat)) (hm : jnl v.natAbs ≤ cL (a + 1)) : jM g n (jvu V a v) X ((h.set a (.inr (2, [.ref (a + 1), .int (jn (jnl v.natAbs : Nat)), .int (jn (jsg v)), .long (jl (jfa v.natAbs : Nat))]))).set (a + 1) (.inl (0, cL (a + 1), fun j => .int (q j)))) := by
  have k1 := mK_w (Or.inr ka)
  have hl := (M.DT ka).lt
  refine M.up (fun x => x = a ∨ x = a + 1) (by rw [List.length_set, List.length_set]) (fun x hx => ?_) (fun p hp => ?_) (fun x hx => jvu_ne _ _ _ (fun e => hx (Or.inl e))) (fun _ _ => rfl) (fun x hx => ?_) (fun x hx => ?_)
  · rcases hx with e | e <;> subst e <;> omega
  · rw [List.getElem?_set_ne (fun e => hp (Or.inr e.symm)), List.getElem?_set_ne (fun e => hp (Or.inl e.symm))]
  · constructor
    · intro q
      rcases q with e | e
      · exact Or.inr (by omega)
      · subst e
        omega
    · intro q
      rcases q with e | e
      · subst e
        have := mK_w hx
        omega
      · exact Or.inl (by omega)
  · rcases hx with e | e
    · subst e
      rw [ka]
      show dX _ x _ _
      rw [jvu_at]
      suffices w : wD _ x _ v from ⟨w.T (Nat.le_of_eq (mK_d ka)), fun _ => w⟩
      refine ⟨q, ?_, ?_, hq, hm⟩
      · rw [List.getElem?_set_ne (by omega), List.getElem?_set_self (by omega)]
      · rw [List.getElem?_set_self (by rw [List.length_set]; omega)]
    · subst e
      rw [k1.1]
      show _ ∨ _
      exact Or.inl (Or.inr ka)
theorem mW_prepare (M : jM g n V X h) {c a : Nat} (kc : cK c = 12) (ka : cK a = 18) (hm : jnl (V a).natAbs ≤ cL (c + 1)) : mj_Ok (D + 1) 30 [.ref c, .ref a] h (fun r => ∃ h', jM g n (jvu V c (V a)) X h' ∧ r = (.inl none, h')) := by
  obtain ⟨q, s0, g0, f0, hs0, h1, h2⟩ := M.DT kc
  have k1 := mK_w (Or.inr kc)
  obtain ⟨p, a1, a2, a3, a4⟩ := M.W ka
  have k2 := mK_w (Or.inl ka)
  have hne : a ≠ c := fun e => by subst e; omega
  have ne := mK_ne (Or.inl ka) (Or.inr kc) hne
  refine ((jw_prepare (D := D) (nd := cL (c + 1)) (m := cL (a + 1)) (x := (V a).natAbs) (s0 := jn (s0 : Nat)) (sv0 := g0) (fac0 := f0) (s2 := jsg (V a)) (gv := q) (gy := p) (by omega) (by omega) hm a4 a3).lift [c, c + 1, a, a + 1] (h := h) rfl (by simp; omega) (fun i p e hi he => ?_) (fun r hr => ?_)).to (fun r hr => ?_)
  · match i, hi, he with
    | 0, hi, he => cases hi; cases he; exact h1
    | 1, hi, he => cases hi; cases he; exact h2
    | 2, hi, he => cases hi; cases he; exact a1
    | 3, hi, he => cases hi; cases he; exact a2
    | i + 4, hi, he => simp at hi
  · obtain ⟨g', _, e⟩ := hr
    rw [e]
    rfl
  · obtain ⟨r0, K', ⟨g', q1, q3⟩, hr⟩ := hr
    cases q3
    refine ⟨_, M.setD kc (v := V a) (q := g') q1 hm, hr.trans (congrArg (Prod.mk _) ?_)⟩
    exact lay2 hne ne.2.1 ne.1 ne.2.2 a1 a2
theorem jfa_room {x m : Nat} (h : jnl x + 1 ≤ m) : jnl (x * jfa x) ≤ m := by
  rw [jfa_nl]
  omega
/-- a number is divided; the remainder stands in its place -/
theorem mW_split (M : jM g n V X h) {c a b : Nat} (kc : cK c = 12) (ka : cK a = 18) (kb : cK b = 18) (hab : a ≠ b) (hX : jnl ((V a).natAbs * jfa (V c).natAbs) ≤ cL (a + 1)) (hm : jnl ((V a).tdiv (V c)).natAbs ≤ cL (b + 1)) (hcc : jnl (V c).natAbs ≤ 1500 := by omega) : mj_Ok (D + 2) 31 [.ref c, .ref a, .ref b] h (fun r => ∃ h', jM g n (jvu (jvu V a ((V a).tmod (V c))) b ((V a).tdiv (V c))) X h' ∧ r = (.inl none, h')) := by
  obtain ⟨q, h1, h2, h3, h4⟩ := M.D kc
  have k1 := mK_w (Or.inr kc)
  have k2 := mK_w (Or.inl ka)
  have hca2 : jnl (V a).natAbs ≤ 1500 := by
    have q := jnl_mono (show (V a).natAbs ≤ (V a).natAbs * jfa (V c).natAbs from Nat.le_mul_of_pos_right _ (jfa_pos _).1)
    omega
  obtain ⟨p, a1, a2, a3, a4⟩ := M.W ka
  obtain ⟨s, s0, g0, hs0, b1, b2⟩ := M.T kb
  have k3 := mK_w (Or.inl kb)
  have hca : c ≠ a := fun e => by subst e; omega
  have hcb : c ≠ b := fun e => by subst e; omega
  have nca := mK_ne (Or.inr kc) (Or.inl ka) hca
  have ncb := mK_ne (Or.inr kc) (Or.inl kb) hcb
  have nab := mK_ne (Or.inl ka) (Or.inl kb) hab
  refine ((jw_split (D := D) (nd := cL (c + 1)) (m := cL (a + 1)) (nq := cL (b + 1)) (u := V a) (v := V c) (sz0 := s0) (g0 := g0) (gv := q) (gy := p) (gq := s) (by omega) (by omega) (by omega) h4 hX hm h3 a3).lift [c, c + 1, a, a + 1, b, b + 1] (h := h) rfl (by simp; omega) (fun i p e hi he => ?_) (fun r hr => ?_)).to (fun r hr => ?_)
  · match i, hi, he with
    | 0, hi, he => cases hi; cases he; exact h1
    | 1, hi, he => cases hi; cases he; exact h2
    | 2, hi, he => cases hi; cases he; exact a1
    | 3, hi, he => cases hi; cases he; exact a2
    | 4, hi, he => cases hi; cases he; exact b1
    | 5, hi, he => cases hi; cases he; exact b2
    | i + 6, hi, he => simp at hi
  · obtain ⟨g', g'', _, _, e⟩ := hr
    rw [e]
    rfl
  · obtain ⟨r0, K', ⟨g', g'', q1, q2, q3⟩, hr⟩ := hr
    cases q3
    have hle : jnl ((V a).tmod (V c)).natAbs ≤ cL (a + 1) := Nat.le_trans (jnl_mono (by rw [Int.natAbs_tmod]; exact Nat.mod_le _ _)) a4
    have M1 := M.setW ka (v := (V a).tmod (V c)) (q := g') q1 hle
    have M2 := M1.setW kb (v := (V a).tdiv (V c)) (q := g'') q2 hm
    refine ⟨_, M2, hr.trans (congrArg (Prod.mk _) ?_)⟩
    refine congrArg (fun z : mj_H => (z.set b _).set (b + 1) _) (congrArg (fun z : mj_H => (z.set a _).set (a + 1) _) ?_)
    exact (congrArg (fun z : mj_H => z.set (c + 1) _) (set_same h1)).trans (set_same h2)
end MWD
