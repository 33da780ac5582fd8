/-! Determinant polynomials: rows are polynomials; all but one of the columns are cut off from the top. -/
def zs : Nat → (Nat → Int) → Int
  | 0, _ => 0
  | n + 1, f => zs n f + f n
theorem zs_congr {f g : Nat → Int} : ∀ {n : Nat}, (∀ i, i < n → f i = g i) → zs n f = zs n g
  | 0, _ => rfl
  | n + 1, h => by
    show zs n f + f n = zs n g + g n
    rw [zs_congr (fun i hi => h i (by omega)), h n (by omega)]
theorem zs_zero {f : Nat → Int} : ∀ {n : Nat}, (∀ i, i < n → f i = 0) → zs n f = 0
  | 0, _ => rfl
  | n + 1, h => by
    show zs n f + f n = 0
    rw [zs_zero (fun i hi => h i (by omega)), h n (by omega)]
    rfl
theorem zs_one {f : Nat → Int} {p : Nat} : ∀ {n : Nat}, p < n → (∀ i, i < n → i ≠ p → f i = 0) → zs n f = f p
  | 0, h, _ => by omega
  | n + 1, hp, h => by
    show zs n f + f n = f p
    by_cases c : p = n
    · subst c
      rw [zs_zero (fun i hi => h i (by omega) (by omega)), Int.zero_add]
    · rw [zs_one (p := p) (by omega) (fun i hi hn => h i (by omega) hn), h n (by omega) (fun q => c q.symm), Int.add_zero]
theorem zs_two {f : Nat → Int} {p q : Nat} (hpq : p ≠ q) : ∀ {n : Nat}, p < n → q < n → (∀ i, i < n → i ≠ p → i ≠ q → f i = 0) → zs n f = f p + f q
  | 0, h, _, _ => by omega
  | n + 1, hp, hq, h => by
    show zs n f + f n = f p + f q
    by_cases c : p = n
    · subst c
      rw [zs_one (p := q) (by omega) (fun i hi hn => h i (by omega) (by omega) hn), Int.add_comm]
    · by_cases d : q = n
      · subst d
        rw [zs_one (p := p) (by omega) (fun i hi hn => h i (by omega) hn (by omega))]
      · rw [zs_two hpq (by omega) (by omega) (fun i hi h1 h2 => h i (by omega) h1 h2), h n (by omega) (fun w => c w.symm) (fun w => d w.symm), Int.add_zero]
theorem zs_lin (a b : Int) (f g : Nat → Int) : ∀ n, zs n (fun i => a * f i + b * g i) = a * zs n f + b * zs n g
  | 0 => by show (0 : Int) = a * 0 + b * 0; rw [Int.mul_zero, Int.mul_zero]; rfl
  | n + 1 => by
    show zs n _ + (a * f n + b * g n) = a * (zs n f + f n) + b * (zs n g + g n)
    rw [zs_lin a b f g n, Int.mul_add, Int.mul_add]
    omega
def sgn : Nat → Int
  | 0 => 1
  | n + 1 => -sgn n
theorem sgn_sq : ∀ n, sgn n = 1 ∨ sgn n = -1
  | 0 => Or.inl rfl
  | n + 1 => by
    show -sgn n = 1 ∨ -sgn n = -1
    rcases sgn_sq n with h | h <;> rw [h]
    · exact Or.inr rfl
    · exact Or.inl rfl
/-- the rows without one of them -/
def rsk1 (i : Nat) (L : Nat → pz_P) (r : Nat) : pz_P := if r < i then L r else L (r + 1)
/-- another row in its place -/
def rup (L : Nat → pz_P) (r : Nat) (P : pz_P) (s : Nat) : pz_P := if s = r then P else L s
/-- k + 1 rows, the top column c -/
def dp : Nat → Nat → (Nat → pz_P) → pz_P
  | 0, _, L => L 0
  | k + 1, c, L => fun x => zs (k + 2) (fun i => sgn i * L i c * dp k (c - 1) (rsk1 i L) x)
theorem dp_congr : ∀ (k c : Nat) {L L' : Nat → pz_P}, (∀ r, r ≤ k → L r = L' r) → dp k c L = dp k c L'
  | 0, _, L, L', h => h 0 (Nat.le_refl 0)
  | k + 1, c, L, L', h => funext fun x => by
    show zs (k + 2) _ = zs (k + 2) _
    refine zs_congr (fun i hi => ?_)
    rw [h i (by omega), dp_congr k (c - 1) (L := rsk1 i L) (L' := rsk1 i L') (fun r hr => by
      unfold rsk1
      split
      · exact h r (by omega)
      · exact h (r + 1) (by omega))]
/-- linear in each row -/
theorem dp_lin (a b : Int) (P Q : pz_P) : ∀ (k c r : Nat) (L : Nat → pz_P), r ≤ k → ∀ x, dp k c (rup L r (pz_add (pz_sc a P) (pz_sc b Q))) x = a * dp k c (rup L r P) x + b * dp k c (rup L r Q) x
  | 0, c, r, L, hr, x => by
    have e : r = 0 := by omega
    subst e
    rfl
  | k + 1, c, r, L, hr, x => by
    show zs (k + 2) _ = a * zs (k + 2) _ + b * zs (k + 2) _
    rw [← zs_lin]
    refine zs_congr (fun i hi => ?_)
    by_cases e : i = r
    · subst e
      have sk : ∀ P : pz_P, ∀ s, rsk1 i (rup L i P) s = rsk1 i L s := fun P s => by
        simp only [rsk1, rup]
        split
        · rw [if_neg (by omega)]
        · rw [if_neg (by omega)]
      rw [funext (sk (pz_add (pz_sc a P) (pz_sc b Q))), funext (sk P), funext (sk Q)]
      have e0 : ∀ P : pz_P, rup L i P i = P := fun P => if_pos rfl
      rw [e0, e0, e0]
      show sgn i * (a * P c + b * Q c) * dp k (c - 1) (rsk1 i L) x = _
      rw [Int.mul_add, Int.add_mul]
      have q1 : sgn i * (a * P c) * dp k (c - 1) (rsk1 i L) x = a * (sgn i * P c * dp k (c - 1) (rsk1 i L) x) := by ac_rfl
      have q2 : sgn i * (b * Q c) * dp k (c - 1) (rsk1 i L) x = b * (sgn i * Q c * dp k (c - 1) (rsk1 i L) x) := by ac_rfl
      rw [q1, q2]
    · have e0 : ∀ P : pz_P, rup L r P i = L i := fun P => if_neg e
      rw [e0, e0, e0]
      obtain ⟨r', hr', sk⟩ : ∃ r', r' ≤ k ∧ ∀ P : pz_P, rsk1 i (rup L r P) = rup (rsk1 i L) r' P := by
        by_cases c1 : r < i
        · refine ⟨r, by omega, fun P => funext fun s => ?_⟩
          simp only [rsk1, rup]
          by_cases d1 : s < i
          · rw [if_pos d1, if_pos d1]
          · rw [if_neg d1, if_neg (by omega), if_neg (by omega), if_neg d1]
        · refine ⟨r - 1, by omega, fun P => funext fun s => ?_⟩
          simp only [rsk1, rup]
          by_cases d1 : s < i
          · rw [if_pos d1, if_neg (by omega), if_neg (by omega), if_pos d1]
          · rw [if_neg d1, if_neg d1]
            by_cases d2 : s + 1 = r
            · rw [if_pos d2, if_pos (by omega)]
            · rw [if_neg d2, if_neg (by omega)]
      rw [sk, sk, sk, dp_lin a b P Q k (c - 1) r' (rsk1 i L) hr' x, Int.mul_add]
      have q : ∀ t d : Int, sgn i * L i c * (t * d) = t * (sgn i * L i c * d) := fun t d => by ac_rfl
      rw [q, q]
/-- two neighbours that are the same -/
theorem dp_eq : ∀ (k c r : Nat) (L : Nat → pz_P), r + 1 ≤ k → L r = L (r + 1) → ∀ x, dp k c L x = 0
  | 0, _, r, _, hr, _, _ => by omega
  | k + 1, c, r, L, hr, h, x => by
    show zs (k + 2) _ = 0
    rw [zs_two (p := r) (q := r + 1) (by omega) (by omega) (by omega) (fun i hi h1 h2 => ?_)]
    · have sk : ∀ s, rsk1 (r + 1) L s = rsk1 r L s := fun s => by
        unfold rsk1
        by_cases d1 : s < r
        · rw [if_pos d1, if_pos (by omega)]
        · rw [if_neg d1]
          by_cases d2 : s = r
          · subst d2
            rw [if_pos (by omega), h]
          · rw [if_neg (by omega)]
      rw [funext sk, h]
      show sgn r * L (r + 1) c * dp k (c - 1) (rsk1 r L) x + -sgn r * L (r + 1) c * dp k (c - 1) (rsk1 r L) x = 0
      rw [Int.neg_mul, Int.neg_mul]
      omega
    · have hz : dp k (c - 1) (rsk1 i L) x = 0 := by
        by_cases c1 : i < r
        · refine dp_eq k (c - 1) (r - 1) (rsk1 i L) (by omega) ?_ x
          unfold rsk1
          rw [if_neg (by omega), if_neg (by omega), show r - 1 + 1 = r by omega]
          exact h
        · refine dp_eq k (c - 1) r (rsk1 i L) (by omega) ?_ x
          unfold rsk1
          rw [if_pos (by omega), if_pos (by omega)]
          exact h
      rw [hz, Int.mul_zero]
theorem rup_rup (L : Nat → pz_P) (r : Nat) (P Q : pz_P) : rup (rup L r P) r Q = rup L r Q := funext fun s => by
  unfold rup
  split
  · rfl
  · rfl
theorem rup_comm (L : Nat → pz_P) {r s : Nat} (h : r ≠ s) (P Q : pz_P) : rup (rup L r P) s Q = rup (rup L s Q) r P := funext fun t => by
  unfold rup
  by_cases c : t = s
  · rw [if_pos c, if_neg (by omega), if_pos c]
  · rw [if_neg c]
    by_cases d : t = r
    · rw [if_pos d, if_pos d]
    · rw [if_neg d, if_neg d, if_neg c]
theorem rup_self (L : Nat → pz_P) (r : Nat) : rup L r (L r) = L := funext fun s => by
  unfold rup
  split
  · rename_i e
    rw [e]
  · rfl
theorem pz_add11 (P Q : pz_P) : pz_add (pz_sc 1 P) (pz_sc 1 Q) = pz_add P Q := funext fun i => by
  show 1 * P i + 1 * Q i = P i + Q i
  omega
/-- two neighbours change places -/
theorem dp_swap (k c r : Nat) (L : Nat → pz_P) (hr : r + 1 ≤ k) (P Q : pz_P) (x : Nat) : dp k c (rup (rup L r Q) (r + 1) P) x = -dp k c (rup (rup L r P) (r + 1) Q) x := by
  have lin : ∀ (A B : pz_P) (M : Nat → pz_P) (s : Nat), s ≤ k → dp k c (rup M s (pz_add A B)) x = dp k c (rup M s A) x + dp k c (rup M s B) x := fun A B M s hs => by
    have := dp_lin 1 1 A B k c s M hs x
    rw [pz_add11, Int.one_mul, Int.one_mul] at this
    exact this
  have same : ∀ A : pz_P, dp k c (rup (rup L r A) (r + 1) A) x = 0 := fun A => by
    refine dp_eq k c r _ hr ?_ x
    unfold rup
    rw [if_neg (by omega), if_pos rfl, if_pos rfl]
  have h0 := same (pz_add P Q)
  rw [lin P Q (rup L r (pz_add P Q)) (r + 1) (by omega), rup_comm L (by omega) (pz_add P Q) P, rup_comm L (by omega) (pz_add P Q) Q, lin P Q (rup L (r + 1) P) r (by omega), lin P Q (rup L (r + 1) Q) r (by omega), ← rup_comm L (show r ≠ r + 1 by omega) P P, ← rup_comm L (show r ≠ r + 1 by omega) Q P, ← rup_comm L (show r ≠ r + 1 by omega) P Q, ← rup_comm L (show r ≠ r + 1 by omega) Q Q, same, same] at h0
  omega
/-- two rows that are the same -/
theorem dp_eq2 (k c : Nat) : ∀ (d r : Nat) (L : Nat → pz_P), r + d + 1 ≤ k → L r = L (r + d + 1) → ∀ x, dp k c L x = 0
  | 0, r, L, hr, h, x => dp_eq k c r L hr h x
  | d + 1, r, L, hr, h, x => by
    -- the upper one moves down by one
    have e1 : L = rup (rup L (r + d + 1) (L (r + d + 1))) (r + d + 1 + 1) (L (r + d + 1 + 1)) := by
      rw [rup_self]
      exact (rup_self L _).symm
    have h2 := dp_swap k c (r + d + 1) L (by omega) (L (r + d + 1)) (L (r + d + 1 + 1)) x
    rw [← e1] at h2
    have h3 := dp_eq2 k c d r (rup (rup L (r + d + 1) (L (r + d + 1 + 1))) (r + d + 1 + 1) (L (r + d + 1))) (by omega) (by
      unfold rup
      rw [if_neg (by omega), if_neg (by omega), if_neg (by omega), if_pos rfl]
      exact h) x
    omega
theorem dp_two {k c r s : Nat} {L : Nat → pz_P} (hrs : r ≠ s) (hr : r ≤ k) (hs : s ≤ k) (h : L r = L s) (x : Nat) : dp k c L x = 0 := by
  rcases Nat.lt_or_ge r s with q | q
  · exact dp_eq2 k c (s - r - 1) r L (by omega) (by rw [show r + (s - r - 1) + 1 = s by omega]; exact h) x
  · exact dp_eq2 k c (r - s - 1) s L (by omega) (by rw [show s + (r - s - 1) + 1 = r by omega]; exact h.symm) x
/-- a row gets a multiple of another one, and is itself multiplied -/
theorem dp_row {k c r s : Nat} {L : Nat → pz_P} (hrs : r ≠ s) (hr : r ≤ k) (hs : s ≤ k) (a b : Int) (x : Nat) : dp k c (rup L r (pz_add (pz_sc a (L r)) (pz_sc b (L s)))) x = a * dp k c L x := by
  rw [dp_lin a b (L r) (L s) k c r L hr x, rup_self, dp_two (L := rup L r (L s)) hrs hr hs (by unfold rup; rw [if_pos rfl, if_neg (Ne.symm hrs)]) x, Int.mul_zero, Int.add_zero]
/-- just one row reaches the top column -/
theorem dp_top {k c p : Nat} {L : Nat → pz_P} (hp : p ≤ k + 1) (h : ∀ r, r ≤ k + 1 → r ≠ p → L r c = 0) (x : Nat) : dp (k + 1) c L x = sgn p * L p c * dp k (c - 1) (rsk1 p L) x := by
  show zs (k + 2) _ = _
  rw [zs_one (p := p) (by omega) (fun i hi hn => by rw [h i (by omega) hn, Int.mul_zero, Int.zero_mul])]
/-! Rows of two polynomials: elimination, and peeling off the top. -/
def pz_sh (k : Nat) (P : pz_P) : pz_P := fun i => if i < k then 0 else P (i - k)
/-- a rows of A, b rows of B, each time shifted less -/
def srow (a b : Nat) (A B : pz_P) (r : Nat) : pz_P := if r < a then pz_sh (a - 1 - r) A else pz_sh (a + b - 1 - r) B
/-- equal, or equal but for the sign -/
def pm (f g : pz_P) : Prop := (∀ x, f x = g x) ∨ (∀ x, f x = -g x)
theorem pm.rf (f : pz_P) : pm f f := Or.inl fun _ => rfl
theorem pm.sy {f g : pz_P} (h : pm f g) : pm g f := by
  rcases h with h | h
  · exact Or.inl fun x => (h x).symm
  · exact Or.inr fun x => by rw [h x]; omega
theorem pm.tr {f g k : pz_P} (h : pm f g) (q : pm g k) : pm f k := by
  rcases h with h | h <;> rcases q with q | q
  · exact Or.inl fun x => by rw [h x, q x]
  · exact Or.inr fun x => by rw [h x, q x]
  · exact Or.inr fun x => by rw [h x, q x]
  · exact Or.inl fun x => by rw [h x, q x]; omega
theorem pm.sc {f g : pz_P} (h : pm f g) (c : Int) : pm (pz_sc c f) (pz_sc c g) := by
  rcases h with h | h
  · exact Or.inl fun x => by show c * f x = c * g x; rw [h x]
  · exact Or.inr fun x => by show c * f x = -(c * g x); rw [h x, Int.mul_neg]
theorem pm.un {f g : pz_P} {c : Int} (hc : c ≠ 0) (h : pm (pz_sc c f) (pz_sc c g)) : pm f g := by
  rcases h with h | h
  · exact Or.inl fun x => Int.eq_of_mul_eq_mul_left hc (h x)
  · exact Or.inr fun x => Int.eq_of_mul_eq_mul_left hc (by
      have := h x
      rw [Int.mul_neg]
      exact this)
theorem pm_sgn {s : Int} (hs : s = 1 ∨ s = -1) (f : pz_P) : pm (pz_sc s f) f := by
  rcases hs with h | h
  · exact Or.inl fun x => by show s * f x = f x; rw [h, Int.one_mul]
  · exact Or.inr fun x => by show s * f x = -f x; rw [h]; omega
/-- one step of an elimination: each row of A is changed in the same way -/
theorem dp_elim {a b s c : Nat} {A B P : pz_P} {l t : Int} (ha : 1 ≤ a) (hs : a + s ≤ b) (hP : ∀ i, P i = l * A i - t * pz_sh s B i) : ∀ x, dp (a + b - 1) c (srow a b P B) x = l ^ a * dp (a + b - 1) c (srow a b A B) x := by
  -- row by row
  have key : ∀ u, u ≤ a → ∀ x, dp (a + b - 1) c (fun r => if r < u then pz_sh (a - 1 - r) P else srow a b A B r) x = l ^ u * dp (a + b - 1) c (srow a b A B) x := by
    intro u
    induction u with
    | zero =>
      intro _ x
      rw [Int.pow_zero, Int.one_mul]
      rfl
    | succ u ih =>
      intro hu x
      have h1 := ih (by omega) x
      have h2 := dp_row (k := a + b - 1) (c := c) (r := u) (s := a + (b - 1 - (a - 1 - u + s))) (L := fun r => if r < u then pz_sh (a - 1 - r) P else srow a b A B r) (by omega) (by omega) (by omega) l (-t) x
      rw [h1, ← Int.mul_assoc, ← Int.pow_succ'] at h2
      rw [← h2]
      refine congrFun (dp_congr _ _ (fun r hr => ?_)) x
      unfold rup
      by_cases c1 : r = u
      · subst c1
        rw [if_pos (by omega), if_pos rfl, if_neg (by omega), if_neg (by omega)]
        unfold srow
        rw [if_pos (by omega), if_neg (by omega), show a + b - 1 - (a + (b - 1 - (a - 1 - r + s))) = a - 1 - r + s by omega]
        funext i
        show (if i < a - 1 - r then 0 else P (i - (a - 1 - r))) = l * (if i < a - 1 - r then 0 else A (i - (a - 1 - r))) + -t * (if i < a - 1 - r + s then 0 else B (i - (a - 1 - r + s)))
        by_cases d : i < a - 1 - r
        · rw [if_pos d, if_pos d, if_pos (by omega)]
          omega
        · rw [if_neg d, if_neg d, hP]
          show l * A (i - (a - 1 - r)) - t * (if i - (a - 1 - r) < s then 0 else B (i - (a - 1 - r) - s)) = _
          by_cases e : i < a - 1 - r + s
          · rw [if_pos e, if_pos (by omega), Int.mul_zero, Int.mul_zero]
            omega
          · rw [if_neg e, if_neg (by omega), show i - (a - 1 - r) - s = i - (a - 1 - r + s) by omega, Int.neg_mul]
            omega
      · rw [if_neg c1]
        show (if r < u + 1 then pz_sh (a - 1 - r) P else srow a b A B r) = if r < u then pz_sh (a - 1 - r) P else srow a b A B r
        by_cases c2 : r < u
        · rw [if_pos c2, if_pos (by omega)]
        · rw [if_neg c2, if_neg (by omega)]
  intro x
  rw [← key a (Nat.le_refl a) x]
  refine congrFun (dp_congr _ _ (fun r hr => ?_)) x
  unfold srow
  by_cases c1 : r < a
  · rw [if_pos c1, if_pos c1]
  · rw [if_neg c1, if_neg c1, if_neg c1]
/-- the uppermost row of B is the only one that reaches the top -/
theorem dp_peel1 {a b n : Nat} {R B : pz_P} (ha : 1 ≤ a) (hB : ∀ i, n < i → B i = 0) (hR : ∀ i, n + (b + 1) ≤ i + a → R i = 0) (x : Nat) : dp (a + (b + 1) - 1) (b + n) (srow a (b + 1) R B) x = sgn a * B n * dp (a + b - 1) (b + n - 1) (srow a b R B) x := by
  obtain ⟨k, hk⟩ : ∃ k, a + b - 1 = k := ⟨_, rfl⟩
  rw [show a + (b + 1) - 1 = k + 1 by omega, hk]
  rw [dp_top (p := a) (by omega) (fun r hr hn => ?_) x]
  · have e1 : srow a (b + 1) R B a (b + n) = B n := by
      unfold srow pz_sh
      rw [if_neg (by omega), if_neg (by omega), show b + n - (a + (b + 1) - 1 - a) = n by omega]
    rw [e1]
    have e2 : ∀ r, rsk1 a (srow a (b + 1) R B) r = srow a b R B r := fun r => by
      unfold rsk1 srow
      by_cases c : r < a
      · rw [if_pos c, if_pos c, if_pos c]
      · rw [if_neg c, if_neg (by omega), if_neg c, show a + (b + 1) - 1 - (r + 1) = a + b - 1 - r by omega]
    rw [funext e2]
  · unfold srow pz_sh
    by_cases c : r < a
    · rw [if_pos c]
      show (if b + n < a - 1 - r then 0 else R (b + n - (a - 1 - r))) = 0
      split
      · rfl
      · exact hR _ (by omega)
    · rw [if_neg c, if_neg (by omega)]
      exact hB _ (by omega)
theorem dp_peel {a b n : Nat} {R B : pz_P} (ha : 1 ≤ a) (hB : ∀ i, n < i → B i = 0) : ∀ t : Nat, (∀ i, n + b + 1 ≤ i + a → R i = 0) → 1 ≤ a + b + n → pm (dp (a + (b + t) - 1) (b + t + n - 1) (srow a (b + t) R B)) (pz_sc ((B n) ^ t) (dp (a + b - 1) (b + n - 1) (srow a b R B)))
  | 0, _, _ => by
    refine Or.inl fun x => ?_
    show _ = (B n) ^ 0 * _
    rw [Int.pow_zero, Int.one_mul]
    rfl
  | t + 1, hR, h1 => by
    have ih := dp_peel (b := b) ha hB t hR h1
    have h2 := fun x => dp_peel1 (b := b + t) (x := x) ha hB (fun i hi => hR i (by omega))
    have h3 : pm (dp (a + (b + (t + 1)) - 1) (b + (t + 1) + n - 1) (srow a (b + (t + 1)) R B)) (pz_sc (B n) (dp (a + (b + t) - 1) (b + t + n - 1) (srow a (b + t) R B))) := by
      have h4 : ∀ x, dp (a + (b + (t + 1)) - 1) (b + (t + 1) + n - 1) (srow a (b + (t + 1)) R B) x = pz_sc (sgn a) (pz_sc (B n) (dp (a + (b + t) - 1) (b + t + n - 1) (srow a (b + t) R B))) x := fun x => by
        have := h2 x
        rw [show b + (t + 1) + n - 1 = b + t + n by omega]
        show dp (a + (b + t + 1) - 1) (b + t + n) (srow a (b + t + 1) R B) x = sgn a * (B n * _)
        rw [this, Int.mul_assoc]
      exact pm.tr (Or.inl h4) (pm_sgn (sgn_sq a) _)
    have h5 := h3.tr (ih.sc (B n))
    refine h5.tr (Or.inl fun x => ?_)
    show B n * ((B n) ^ t * _) = (B n) ^ (t + 1) * _
    rw [Int.pow_succ, Int.mul_comm ((B n) ^ t) (B n), Int.mul_assoc]
/-- a factor of A -/
theorem dp_scA {a b c : Nat} {A B P : pz_P} {l : Int} (hP : ∀ i, P i = l * A i) (hab : 1 ≤ a + b) : ∀ x, dp (a + b - 1) c (srow a b P B) x = l ^ a * dp (a + b - 1) c (srow a b A B) x := by
  have key : ∀ u, u ≤ a → ∀ x, dp (a + b - 1) c (fun r => if r < u then pz_sh (a - 1 - r) P else srow a b A B r) x = l ^ u * dp (a + b - 1) c (srow a b A B) x := by
    intro u
    induction u with
    | zero =>
      intro _ x
      rw [Int.pow_zero, Int.one_mul]
      rfl
    | succ u ih =>
      intro hu x
      have h1 := ih (by omega) x
      have h2 := dp_lin l 0 (pz_sh (a - 1 - u) A) (pz_sh (a - 1 - u) A) (a + b - 1) c u (fun r => if r < u then pz_sh (a - 1 - r) P else srow a b A B r) (by omega) x
      rw [Int.zero_mul, Int.add_zero] at h2
      have e1 : rup (fun r => if r < u then pz_sh (a - 1 - r) P else srow a b A B r) u (pz_sh (a - 1 - u) A) = (fun r => if r < u then pz_sh (a - 1 - r) P else srow a b A B r) := funext fun r => by
        unfold rup
        by_cases c1 : r = u
        · subst c1
          rw [if_pos rfl, if_neg (by omega)]
          unfold srow
          rw [if_pos (by omega)]
        · rw [if_neg c1]
      rw [e1, h1, ← Int.mul_assoc, ← Int.pow_succ'] at h2
      rw [← h2]
      refine congrFun (dp_congr _ _ (fun r hr => ?_)) x
      unfold rup
      by_cases c1 : r = u
      · subst c1
        rw [if_pos (by omega), if_pos rfl]
        funext i
        show (if i < a - 1 - r then 0 else P (i - (a - 1 - r))) = l * (if i < a - 1 - r then 0 else A (i - (a - 1 - r))) + 0 * _
        rw [Int.zero_mul, Int.add_zero]
        by_cases d : i < a - 1 - r
        · rw [if_pos d, if_pos d, Int.mul_zero]
        · rw [if_neg d, if_neg d, hP]
      · rw [if_neg c1]
        show (if r < u + 1 then pz_sh (a - 1 - r) P else srow a b A B r) = if r < u then pz_sh (a - 1 - r) P else srow a b A B r
        by_cases c2 : r < u
        · rw [if_pos c2, if_pos (by omega)]
        · rw [if_neg c2, if_neg (by omega)]
  intro x
  rw [← key a (Nat.le_refl a) x]
  refine congrFun (dp_congr _ _ (fun r hr => ?_)) x
  unfold srow
  by_cases c1 : r < a
  · rw [if_pos c1, if_pos c1]
  · rw [if_neg c1, if_neg c1, if_neg c1]
/-- the two blocks change places -/
theorem dp_mv1 (k c r : Nat) (L L' : Nat → pz_P) (hr : r + 1 ≤ k) (h1 : L' r = L (r + 1)) (h2 : L' (r + 1) = L r) (h3 : ∀ s, s ≤ k → s ≠ r → s ≠ r + 1 → L' s = L s) : pm (dp k c L') (dp k c L) := by
  refine Or.inr fun x => ?_
  have h := dp_swap k c r L hr (L r) (L (r + 1)) x
  rw [rup_self, rup_self] at h
  rw [← h]
  refine congrFun (dp_congr _ _ (fun s hs => ?_)) x
  unfold rup
  by_cases c1 : s = r + 1
  · rw [if_pos c1, c1, h2]
  · rw [if_neg c1]
    by_cases c2 : s = r
    · rw [if_pos c2, c2, h1]
    · rw [if_neg c2]
      exact h3 s hs c2 c1
/-- t rows of the second block lie ahead of the first one; one more row of it has come u places down -/
def smix (a t u : Nat) (X Y : Nat → pz_P) (r : Nat) : pz_P := if r < t then Y r else if r < t + (a - u) then X (r - t) else if r = t + (a - u) then Y t else if r < t + a + 1 then X (r - t - 1) else Y (r - a)
theorem dp_blocks {a b c : Nat} (X Y : Nat → pz_P) : ∀ t, t ≤ b → pm (dp (a + b - 1) c (fun r => if r < t then Y r else if r < t + a then X (r - t) else Y (r - a))) (dp (a + b - 1) c (fun r => if r < a then X r else Y (r - a)))
  | 0, _ => by
    refine Or.inl fun x => congrFun (dp_congr _ _ (fun r hr => ?_)) x
    rw [if_neg (Nat.not_lt_zero r), Nat.zero_add, Nat.sub_zero]
  | t + 1, ht => by
    have ih := dp_blocks (a := a) (b := b) (c := c) X Y t (by omega)
    have mv : ∀ u, u ≤ a → pm (dp (a + b - 1) c (smix a t u X Y)) (dp (a + b - 1) c (fun r => if r < t then Y r else if r < t + a then X (r - t) else Y (r - a))) := by
      intro u
      induction u with
      | zero =>
        intro _
        refine Or.inl fun x => congrFun (dp_congr _ _ (fun r hr => ?_)) x
        unfold smix
        by_cases c1 : r < t
        · rw [if_pos c1, if_pos c1]
        · rw [if_neg c1, if_neg c1, Nat.sub_zero]
          by_cases c2 : r < t + a
          · rw [if_pos c2, if_pos c2]
          · rw [if_neg c2, if_neg c2]
            by_cases c3 : r = t + a
            · rw [if_pos c3, c3, show t + a - a = t by omega]
            · rw [if_neg c3, if_neg (by omega)]
      | succ u ihu =>
        intro hu
        refine (dp_mv1 (a + b - 1) c (t + (a - (u + 1))) (smix a t u X Y) (smix a t (u + 1) X Y) (by omega) ?_ ?_ (fun s hs n1 n2 => ?_)).tr (ihu (by omega))
        · unfold smix
          rw [if_neg (by omega), if_neg (by omega), if_pos rfl, if_neg (by omega), if_neg (by omega), if_pos (by omega)]
        · unfold smix
          rw [if_neg (by omega), if_neg (by omega), if_neg (by omega), if_pos (by omega), if_neg (by omega), if_pos (by omega)]
          rw [show t + (a - (u + 1)) + 1 - t - 1 = t + (a - (u + 1)) - t by omega]
        · unfold smix
          by_cases c1 : s < t
          · rw [if_pos c1, if_pos c1]
          · rw [if_neg c1, if_neg c1]
            by_cases c2 : s < t + (a - (u + 1))
            · rw [if_pos c2, if_pos (by omega)]
            · rw [if_neg c2, if_neg n1, if_neg (show ¬ s < t + (a - u) by omega), if_neg (show ¬ s = t + (a - u) by omega)]
    refine pm.tr ?_ ((mv a (Nat.le_refl a)).tr ih)
    refine Or.inl fun x => congrFun (dp_congr _ _ (fun r hr => ?_)) x
    unfold smix
    simp only [Nat.sub_self, Nat.add_zero]
    by_cases c1 : r < t
    · rw [if_pos c1, if_pos (by omega)]
    · rw [if_neg c1, if_neg c1]
      by_cases c2 : r = t
      · rw [if_pos c2, if_pos (by omega), c2]
      · rw [if_neg c2, if_neg (by omega), show t + 1 + a = t + a + 1 by omega]
        by_cases c3 : r < t + a + 1
        · rw [if_pos c3, if_pos c3, show r - t - 1 = r - (t + 1) by omega]
        · rw [if_neg c3, if_neg c3]
theorem dp_turn {a b c : Nat} (hab : 1 ≤ a + b) (P Q : pz_P) : pm (dp (a + b - 1) c (srow a b P Q)) (dp (b + a - 1) c (srow b a Q P)) := by
  have h := dp_blocks (a := a) (b := b) (c := c) (fun r => pz_sh (a - 1 - r) P) (fun r => pz_sh (b - 1 - r) Q) b (Nat.le_refl b)
  have h1 : pm (dp (a + b - 1) c (srow a b P Q)) (dp (a + b - 1) c (fun r => if r < a then pz_sh (a - 1 - r) P else pz_sh (b - 1 - (r - a)) Q)) := by
    refine Or.inl fun x => congrFun (dp_congr _ _ (fun r hr => ?_)) x
    unfold srow
    by_cases c1 : r < a
    · rw [if_pos c1, if_pos c1]
    · rw [if_neg c1, if_neg c1, show a + b - 1 - r = b - 1 - (r - a) by omega]
  refine h1.tr (h.sy.tr ?_)
  rw [Nat.add_comm b a]
  refine Or.inl fun x => congrFun (dp_congr _ _ (fun r hr => ?_)) x
  unfold srow
  by_cases c1 : r < b
  · rw [if_pos c1, if_pos c1]
  · rw [if_neg c1, if_neg c1]
    by_cases c2 : r < b + a
    · rw [if_pos (by omega), show b + a - 1 - r = a - 1 - (r - b) by omega]
    · omega
/-- only rows of B: its leads, and B -/
theorem dp_tri {n : Nat} {A B : pz_P} (hB : ∀ i, n < i → B i = 0) : ∀ b : Nat, ∀ x, dp b (b + n) (srow 0 (b + 1) A B) x = (B n) ^ b * B x
  | 0, x => by
    show srow 0 1 A B 0 x = _
    unfold srow pz_sh
    rw [if_neg (Nat.lt_irrefl 0), Int.pow_zero, Int.one_mul]
    rfl
  | b + 1, x => by
    rw [dp_top (p := 0) (Nat.zero_le _) (fun r hr hn => ?_) x]
    · have e1 : srow 0 (b + 1 + 1) A B 0 (b + 1 + n) = B n := by
        unfold srow pz_sh
        rw [if_neg (Nat.lt_irrefl 0), if_neg (by omega), show b + 1 + n - (0 + (b + 1 + 1) - 1 - 0) = n by omega]
      have e2 : ∀ r, rsk1 0 (srow 0 (b + 1 + 1) A B) r = srow 0 (b + 1) A B r := fun r => by
        unfold rsk1 srow
        rw [if_neg (Nat.not_lt_zero _), if_neg (Nat.not_lt_zero _), if_neg (Nat.not_lt_zero _), show 0 + (b + 1 + 1) - 1 - (r + 1) = 0 + (b + 1) - 1 - r by omega]
      rw [e1, funext e2, show b + 1 + n - 1 = b + n by omega, dp_tri hB b x]
      show 1 * B n * _ = _
      rw [Int.one_mul, Int.pow_succ, ← Int.mul_assoc, Int.mul_comm (B n) ((B n) ^ b)]
    · unfold srow pz_sh
      rw [if_neg (Nat.not_lt_zero _), if_neg (by omega)]
      exact hB _ (by omega)
/-! The row of remainders, each divided by what is known to divide it: the subresultants. -/
/-- a rows of A and b rows of B, n the degree of B -/
def SB (a b n : Nat) (A B : pz_P) : pz_P := dp (a + b - 1) (b + n - 1) (srow a b A B)
/-- X and Y are neighbours of the row of A and B -/
def SI (A B : pz_P) (m n : Nat) (X Y : pz_P) (dx dy : Nat) (la ps : Int) : Prop := ∀ j, j ≤ dy → j < dx → pm (SB (dy - j) (dx - j) dy X Y) (pz_sc (la ^ (dy - j) * ps ^ (dx - j - 1)) (SB (n - j) (m - j) n A B))
theorem SI.start (A B : pz_P) (m n : Nat) : SI A B m n A B m n 1 1 := fun j _ _ => Or.inl fun x => by
  show _ = (1 ^ (n - j) * 1 ^ (m - j - 1)) * _
  rw [Int.one_pow, Int.one_pow, Int.one_mul, Int.one_mul]
/-- R comes out of X by eliminating with Y -/
def SE (X Y R : pz_P) (dx dy : Nat) : Prop := ∀ a b c : Nat, 1 ≤ a → a + (dx - dy) ≤ b → ∀ x, dp (a + b - 1) c (srow a b R Y) x = ((Y dy) ^ (dx - dy + 1)) ^ a * dp (a + b - 1) c (srow a b X Y) x
theorem pz_sc_pm {f g : pz_P} {a b : Int} (h : a = b ∨ a = -b) (q : pm f g) : pm (pz_sc a f) (pz_sc b g) := by
  rcases h with h | h
  · rw [h]
    exact q.sc b
  · refine (q.sc a).tr (Or.inr fun x => ?_)
    show a * g x = -(b * g x)
    rw [h, Int.neg_mul]
theorem Int.pow_ab (l : Int) (k : Nat) : l ^ k = ((l.natAbs : Nat) : Int) ^ k ∨ l ^ k = -((l.natAbs : Nat) : Int) ^ k := by
  have e := Int.natAbs_eq l
  generalize ((l.natAbs : Nat) : Int) = w at e
  induction k with
  | zero => exact Or.inl (by rw [Int.pow_zero, Int.pow_zero])
  | succ k ih =>
    rw [Int.pow_succ, Int.pow_succ]
    rcases e with e | e <;> rcases ih with h | h <;> rw [h, e]
    · exact Or.inl rfl
    · exact Or.inr (Int.neg_mul _ _)
    · exact Or.inr (Int.mul_neg _ _)
    · exact Or.inl (by rw [Int.mul_neg, Int.neg_mul, Int.neg_neg])
/-- the remainder is a known number times a subresultant -/
theorem SI.exact {A B X Y R : pz_P} {m n dx dy : Nat} {la ps : Int} (I : SI A B m n X Y dx dy la ps) (hd : dy ≤ dx) (h1 : 1 ≤ dy) (hY : ∀ i, dy < i → Y i = 0) (hl : Y dy ≠ 0) (E : SE X Y R dx dy) (hR : ∀ i, dy ≤ i → R i = 0) : pm R (pz_sc (la * ps ^ (dx - dy)) (SB (n - (dy - 1)) (m - (dy - 1)) n A B)) := by
  have i1 := I (dy - 1) (by omega) (by omega)
  rw [show dy - (dy - 1) = 1 by omega, show dx - (dy - 1) = 0 + (dx - dy + 1) by omega, show 0 + (dx - dy + 1) - 1 = dx - dy by omega, Int.pow_one] at i1
  have e1 := E 1 (0 + (dx - dy + 1)) (0 + (dx - dy + 1) + dy - 1) (Nat.le_refl 1) (by omega)
  have p1 := dp_peel (a := 1) (b := 0) (n := dy) (R := R) (B := Y) (Nat.le_refl 1) hY (dx - dy + 1) (fun i hi => hR i (by omega)) (by omega)
  have hp : (Y dy) ^ (dx - dy + 1) ≠ 0 := Int.pow_ne_zero hl
  have r1 : ∀ x, dp (1 + 0 - 1) (0 + dy - 1) (srow 1 0 R Y) x = R x := fun x => by
    show srow 1 0 R Y 0 x = R x
    unfold srow pz_sh
    rw [if_pos (by decide), if_neg (by omega)]
    rfl
  have k1 : pm (pz_sc ((Y dy) ^ (dx - dy + 1)) (SB 1 (0 + (dx - dy + 1)) dy X Y)) (pz_sc ((Y dy) ^ (dx - dy + 1)) R) := by
    refine pm.tr (Or.inl fun x => ?_) (p1.tr (Or.inl fun x => ?_))
    · rw [e1 x, Int.pow_one]
      rfl
    · show _ * _ = _ * _
      rw [r1]
  exact ((k1.un hp).sy).tr i1
/-- the number that is known next -/
theorem SI.known {A B X Y : pz_P} {m n dx dy : Nat} {la ps : Int} (I : SI A B m n X Y dx dy la ps) (hd : dy < dx) (hY : ∀ i, dy < i → Y i = 0) : (Y dy).natAbs ^ (dx - dy) = ps.natAbs ^ (dx - dy - 1) * (SB (n - dy) (m - dy) n A B dy).natAbs := by
  have i1 := I dy (Nat.le_refl dy) hd
  rw [Nat.sub_self, Int.pow_zero, Int.one_mul] at i1
  obtain ⟨d, hdd⟩ : ∃ d, dx - dy = d + 1 := ⟨dx - dy - 1, by omega⟩
  rw [hdd] at i1 ⊢
  rw [Nat.add_sub_cancel] at i1 ⊢
  have t1 := dp_tri (A := X) hY d dy
  have e1 : SB 0 (d + 1) dy X Y dy = (Y dy) ^ d * Y dy := by
    unfold SB
    rw [show 0 + (d + 1) - 1 = d by omega, show d + 1 + dy - 1 = d + dy by omega]
    exact t1
  have e2 : (SB 0 (d + 1) dy X Y dy).natAbs = (ps ^ d * SB (n - dy) (m - dy) n A B dy).natAbs := by
    rcases i1 with h | h
    · rw [h dy]
      rfl
    · rw [h dy, Int.natAbs_neg]
      rfl
  rw [e1, Int.natAbs_mul, Int.natAbs_pow, Int.natAbs_mul, Int.natAbs_pow] at e2
  rw [Nat.pow_succ]
  exact e2
theorem SI.step {A B X Y R F : pz_P} {m n dx dy rr : Nat} {la ps la' ps' : Int} (I : SI A B m n X Y dx dy la ps) (hd : dy ≤ dx) (hr : rr < dy) (hY : ∀ i, dy < i → Y i = 0) (hl : Y dy ≠ 0) (E : SE X Y R dx dy) (hR : ∀ i, rr < i → R i = 0) (hF : pm R (pz_sc (la * ps ^ (dx - dy)) F)) (hla0 : la ≠ 0) (hps0 : ps ≠ 0) (hla : la' = ((Y dy).natAbs : Nat)) (hps : (dx = dy ∧ ps = 1 ∧ ps' = 1) ∨ (dy < dx ∧ la' ^ (dx - dy) = ps ^ (dx - dy - 1) * ps')) : SI A B m n Y F dy rr la' ps' := by
  intro j hj _
  obtain ⟨t, ht⟩ : ∃ t, dy - j = t + 1 := ⟨dy - j - 1, by omega⟩
  obtain ⟨δ, hδ⟩ : ∃ δ, dx - dy = δ := ⟨_, rfl⟩
  have hla'0 : la' ≠ 0 := by rw [hla]; omega
  have i1 := I j (by omega) (by omega)
  rw [ht, show dx - j = rr - j + (dx - rr) by omega, show rr - j + (dx - rr) - 1 = δ + t by omega] at i1
  have e1 := E (t + 1) (rr - j + (dx - rr)) (rr - j + (dx - rr) + dy - 1) (by omega) (by omega)
  have p1 := dp_peel (a := t + 1) (b := rr - j) (n := dy) (R := R) (B := Y) (by omega) hY (dx - rr) (fun i hi => hR i (by omega)) (by omega)
  -- R is F, taken times, up to the sign
  have s1 : pm (dp (t + 1 + (rr - j) - 1) (rr - j + dy - 1) (srow (t + 1) (rr - j) R Y)) (pz_sc ((la * ps ^ δ) ^ (t + 1)) (dp (t + 1 + (rr - j) - 1) (rr - j + dy - 1) (srow (t + 1) (rr - j) F Y))) := by
    rw [hδ] at hF
    rcases hF with h | h
    · exact Or.inl fun x => dp_scA (l := la * ps ^ δ) (fun i => h i) (by omega) x
    · have h2 := dp_scA (a := t + 1) (b := rr - j) (c := rr - j + dy - 1) (A := F) (B := Y) (P := R) (l := -(la * ps ^ δ)) (fun i => by rw [h i, Int.neg_mul]; rfl) (by omega)
      have h3 : (-(la * ps ^ δ)) ^ (t + 1) = (la * ps ^ δ) ^ (t + 1) ∨ (-(la * ps ^ δ)) ^ (t + 1) = -(la * ps ^ δ) ^ (t + 1) := by
        generalize la * ps ^ δ = w
        have q1 := Int.pow_ab (-w) (t + 1)
        have q2 := Int.pow_ab w (t + 1)
        rw [Int.natAbs_neg] at q1
        rcases q1 with q1 | q1 <;> rcases q2 with q2 | q2 <;> omega
      exact pm.tr (Or.inl h2) (pz_sc_pm h3 (pm.rf _))
  have t1 := dp_turn (a := t + 1) (b := rr - j) (c := rr - j + dy - 1) (by omega) F Y
  have e4 : dp (rr - j + (t + 1) - 1) (rr - j + dy - 1) (srow (rr - j) (t + 1) Y F) = SB (rr - j) (t + 1) rr Y F := by
    unfold SB
    rw [show rr - j + dy - 1 = t + 1 + rr - 1 by omega]
  rw [e4] at t1
  have big : pm (pz_sc (((Y dy) ^ (δ + 1)) ^ (t + 1)) (pz_sc (la ^ (t + 1) * ps ^ (δ + t)) (SB (n - j) (m - j) n A B))) (pz_sc ((Y dy) ^ (dx - rr)) (pz_sc ((la * ps ^ δ) ^ (t + 1)) (SB (rr - j) (t + 1) rr Y F))) := by
    refine ((i1.sc (((Y dy) ^ (δ + 1)) ^ (t + 1))).sy).tr ?_
    refine pm.tr (Or.inl fun x => ?_) (p1.tr (((s1.tr (t1.sc _))).sc _))
    rw [hδ] at e1
    exact (e1 x).symm
  rw [pz_sc_sc, pz_sc_sc, ← Int.pow_mul] at big
  have big2 : pm (pz_sc (la' ^ ((δ + 1) * (t + 1)) * (la ^ (t + 1) * ps ^ (δ + t))) (SB (n - j) (m - j) n A B)) (pz_sc (la' ^ (dx - rr) * (la * ps ^ δ) ^ (t + 1)) (SB (rr - j) (t + 1) rr Y F)) := by
    have c1 : la' ^ ((δ + 1) * (t + 1)) * (la ^ (t + 1) * ps ^ (δ + t)) = (Y dy) ^ ((δ + 1) * (t + 1)) * (la ^ (t + 1) * ps ^ (δ + t)) ∨ la' ^ ((δ + 1) * (t + 1)) * (la ^ (t + 1) * ps ^ (δ + t)) = -((Y dy) ^ ((δ + 1) * (t + 1)) * (la ^ (t + 1) * ps ^ (δ + t))) := by
      rw [hla]
      rcases Int.pow_ab (Y dy) ((δ + 1) * (t + 1)) with q | q
      · left; rw [q]
      · right; rw [q, Int.neg_mul, Int.neg_neg]
    have c2 : (Y dy) ^ (dx - rr) * (la * ps ^ δ) ^ (t + 1) = la' ^ (dx - rr) * (la * ps ^ δ) ^ (t + 1) ∨ (Y dy) ^ (dx - rr) * (la * ps ^ δ) ^ (t + 1) = -(la' ^ (dx - rr) * (la * ps ^ δ) ^ (t + 1)) := by
      rw [hla]
      rcases Int.pow_ab (Y dy) (dx - rr) with q | q
      · left; rw [q]
      · right; rw [q, Int.neg_mul]
    exact ((pz_sc_pm c1 (pm.rf _)).tr big).tr (pz_sc_pm c2 (pm.rf _))
  -- the numbers
  have num : la' ^ ((δ + 1) * (t + 1)) * (la ^ (t + 1) * ps ^ (δ + t)) = la' ^ (dx - rr) * (la * ps ^ δ) ^ (t + 1) * (la' ^ (rr - j) * ps' ^ t) := by
    rw [Int.mul_pow, ← Int.pow_mul]
    have l1 : la' ^ ((δ + 1) * (t + 1)) = la' ^ (dx - rr) * la' ^ (rr - j) * la' ^ (δ * t) := by
      rw [← Int.pow_add, ← Int.pow_add]
      congr 1
      rw [Nat.add_mul, Nat.mul_add]
      omega
    have l2 : la' ^ (δ * t) * ps ^ (δ + t) = ps ^ (δ * (t + 1)) * ps' ^ t := by
      rcases hps with ⟨q1, q2, q3⟩ | ⟨q1, q2⟩
      · have d0 : δ = 0 := by omega
        subst d0
        rw [q2, q3, Nat.zero_mul, Nat.zero_mul, Int.one_pow, Int.one_pow, Int.pow_zero, Int.one_pow]
      · rw [hδ] at q2
        obtain ⟨d, rfl⟩ : ∃ d, δ = d + 1 := ⟨δ - 1, by omega⟩
        rw [Nat.add_sub_cancel] at q2
        rw [Int.pow_mul, q2, Int.mul_pow, ← Int.pow_mul]
        have q3 : ps ^ ((d + 1) * (t + 1)) = ps ^ (d * t) * ps ^ (d + 1 + t) := by
          rw [← Int.pow_add]
          congr 1
          rw [Nat.add_mul, Nat.mul_add]
          omega
        rw [q3]
        ac_rfl
    rw [l1]
    have l3 : la' ^ (dx - rr) * la' ^ (rr - j) * la' ^ (δ * t) * (la ^ (t + 1) * ps ^ (δ + t)) = la' ^ (dx - rr) * la' ^ (rr - j) * la ^ (t + 1) * (la' ^ (δ * t) * ps ^ (δ + t)) := by ac_rfl
    rw [l3, l2]
    ac_rfl
  rw [num] at big2
  have hne : la' ^ (dx - rr) * (la * ps ^ δ) ^ (t + 1) ≠ 0 := Int.mul_ne_zero (Int.pow_ne_zero hla'0) (Int.pow_ne_zero (Int.mul_ne_zero hla0 (Int.pow_ne_zero hps0)))
  rw [← pz_sc_sc] at big2
  have fin := big2.un hne
  rw [ht, Nat.add_sub_cancel]
  exact fin.sy
/-! The class's memory: V what the whole numbers at their places are (at 170 the divisor), X what all other cells hold. -/
/-- a whole number at a place, with so many limbs of room -/
def wW (h : mj_H) (a n : Nat) (v : Int) : Prop := ∃ q : Nat → Int32, h[a]? = some (.inr (8, [.ref (a + 1), .int (jn (jnl v.natAbs : Nat)), .int (jn (jsg v))])) ∧ h[a + 1]? = some (.inl (0, n, fun j => .int (q j))) ∧ (∀ j, j < jnl v.natAbs → q j = jn (jlb v.natAbs j : Nat)) ∧ jnl v.natAbs ≤ n
/-- a Wide of which no more is known than that it is one -/
def wT (h : mj_H) (a n : Nat) : Prop := ∃ (q : Nat → Int32) (s0 : Nat) (g0 : Int32), s0 ≤ 1000 ∧ h[a]? = some (.inr (8, [.ref (a + 1), .int (jn (s0 : Nat)), .int g0])) ∧ h[a + 1]? = some (.inl (0, n, fun j => .int (q j)))
def dT (h : mj_H) (a n : Nat) : Prop := ∃ (q : Nat → Int32) (s0 : Nat) (g0 : Int32) (f0 : Int64), s0 ≤ 60 ∧ h[a]? = some (.inr (2, [.ref (a + 1), .int (jn (s0 : Nat)), .int g0, .long f0])) ∧ h[a + 1]? = some (.inl (0, n, fun j => .int (q j)))
def wD (h : mj_H) (a n : Nat) (v : Int) : Prop := ∃ q : Nat → Int32, h[a]? = some (.inr (2, [.ref (a + 1), .int (jn (jnl v.natAbs : Nat)), .int (jn (jsg v)), .long (jl (jfa v.natAbs : Nat))])) ∧ h[a + 1]? = some (.inl (0, n, fun j => .int (q j))) ∧ (∀ j, j < jnl v.natAbs → q j = jn (jlb (v.natAbs * jfa v.natAbs) j : Nat)) ∧ jnl v.natAbs ≤ n
/-- a Wide holds the number, or nothing is told of it: where the number has more limbs than any Wide takes -/
def wX (h : mj_H) (a n : Nat) (v : Int) : Prop := wT h a n ∧ (jnl v.natAbs ≤ 1500 → wW h a n v)
def dX (h : mj_H) (a n : Nat) (v : Int) : Prop := dT h a n ∧ (jnl v.natAbs ≤ 1500 → wD h a n v)
/-- the coefficients of a polynomial are known -/
def pcl (V : Nat → Int) (p : Nat) : Prop := ∀ i, i < cL (p + 3) → jnl (V (p + 4 + 2 * i)).natAbs ≤ 1500
theorem wW.T {h : mj_H} {a n : Nat} {v : Int} (hn : n ≤ 1000) (w : wW h a n v) : wT h a n := by
  obtain ⟨q, h1, h2, _, h4⟩ := w
  exact ⟨q, _, _, by omega, h1, h2⟩
theorem wD.T {h : mj_H} {a n : Nat} {v : Int} (hn : n ≤ 60) (w : wD h a n v) : dT h a n := by
  obtain ⟨q, h1, h2, _, h4⟩ := w
  exact ⟨q, _, _, _, by omega, h1, h2⟩
theorem wT.lt {h : mj_H} {a m : Nat} (w : wT h a m) : a + 1 < h.length := by
  obtain ⟨q, _, _, _, _, h2⟩ := w
  exact (List.getElem?_eq_some_iff.mp h2).1
theorem dT.lt {h : mj_H} {a m : Nat} (w : dT h a m) : a + 1 < h.length := by
  obtain ⟨q, _, _, _, _, _, h2⟩ := w
  exact (List.getElem?_eq_some_iff.mp h2).1
/-- the polynomials of the row of Sturm -/
def sro (i : Nat) : Nat := [180, 210, 240, 268, 294, 318, 340, 360, 378, 394, 408, 420, 430, 438].getD i 0
/-- the fields of an object -/
def jMf (X : Nat → Nat → Int) (k a : Nat) : List Value := match k with
  | 10 => [.ref (a + 1), .ref (a + 8), .ref (a + 9), .int (jn (X a 3))]
  | 11 => [.ref 20, .ref 50, .ref 80, .ref 110, .ref 164, .ref 166, .ref 168, .ref 170]
  | 13 => [.ref (a + 3), .ref (a + 1), .int (jn (X a 2))]
  | 14 => [.ref 19, .ref (X a 1).toNat, .int (jn (X a 2)), .int (jn (X a 3)), .int (jn (X a 4)), .ref 456, .ref 466, .ref 476]
  | 15 => [.ref 19, .ref 172, .int (jn (X a 2)), .int (jn (X a 3)), .int (jn (X a 4)), .long (jl (X a 5)), .ref 445, .int (jn (X a 7)), .ref 447, .ref 449, .ref 451, .ref 453]
  | 16 => [.ref 19, .ref 173, .int (jn (X a 2)), .ref 174, .ref 176, .ref 178]
  | 19 => [.ref 2, .ref 12, .int (jn (X a 2)), .int (jn (X a 3)), .ref 13, .ref 15, .ref 17, .ref 19, .ref 172, .ref 444, .ref 455, .ref 477, .ref 479, .ref 481, .ref 482, .int (jn (X a 15))]
  | _ => [.ref (a + 1), .int (jn (X a 1))]
/-- what an array of arrays or objects holds -/
def jMg (k a i : Nat) : Nat := match k with
  | 4 => a + 1 + 2 * i
  | 5 => sro i
  | 6 => a + 1 + i
  | _ => 483 + 10 * i
def jMk (V : Nat → Int) (X : Nat → Nat → Int) (h : mj_H) (k a : Nat) : Prop :=
  if k = 0 then True
  else if k = 18 then wX h a (cL (a + 1)) (V a)
  else if k = 12 then dX h a (cL (a + 1)) (V a)
  else if k = 1 then (cK (a - 1) = 18 ∨ cK (a - 1) = 12) ∨ h[a]? = some (.inl (0, cL a, fun j => .int (jn (X a j))))
  else if k = 2 then h[a]? = some (.inl (1, 13, fun j => .long (jl (X a j))))
  else if k = 3 then h[a]? = some (.inl (2, cL a, fun j => .int (jn (X a j))))
  else if k ≤ 7 then ∃ f : Nat → Value, h[a]? = some (.inl (jak k, cL a, f)) ∧ ∀ i, i < cL a → f i = .ref (jMg k a i)
  else h[a]? = some (.inr (jkc k, jMf X k a))
/-- the class's cells hold that; the others are as in g -/
def jM (g : mj_H) (n : Nat) (V : Nat → Int) (X : Nat → Nat → Int) (h : mj_H) : Prop := h.length = n ∧ (∀ a, cK a = 0 → (a < g.length → h[a]? = g[a]?) ∧ (g.length ≤ a → a < n → h[a]? = some (.inr (99, [.null, .null, .null, .null, .null, .null])))) ∧ ∀ a, jMk V X h (cK a) a
def xup (X : Nat → Nat → Int) (a i : Nat) (v : Int) : Nat → Nat → Int := fun b j => if b = a ∧ j = i then v else X b j
theorem xup_at (X : Nat → Nat → Int) (a i : Nat) (v : Int) : xup X a i v a i = v := if_pos ⟨rfl, rfl⟩
theorem xup_ne (X : Nat → Nat → Int) {a i b j : Nat} (v : Int) (h : b ≠ a ∨ j ≠ i) : xup X a i v b j = X b j := if_neg (by omega)
/-- kinds, place by place -/
theorem mK_1 : ((List.range 563).all (fun a => !(decide (cK a = 18) || decide (cK a = 12)) || (decide (cK (a + 1) = 1) && decide (cL (a + 1) ≤ 1000) && decide (1 ≤ cL (a + 1))))) = true := by decide +kernel
theorem mK_2 : ((List.range 563).all (fun a => !(decide (cK a = 13)) || (decide (cK (a + 1) = 18) && decide (cK (a + 3) = 4) && decide (cL (a + 3) ≤ 25) && decide (1 ≤ cL (a + 3)) && (List.range (cL (a + 3))).all fun i => decide (cK (a + 4 + 2 * i) = 18)))) = true := by decide +kernel
theorem mK_3 : ((List.range 563).all (fun a => !(decide (cK a = 2)) || decide (cL a = 13))) = true := by decide +kernel
theorem mK_0 : ((List.range 563).all (fun a => !(decide (cK a = 12)) || decide (cL (a + 1) = 60))) = true := by decide +kernel
theorem mK_d {a : Nat} (h : cK a = 12) : cL (a + 1) = 60 := by
  have h1 := jall mK_0 (cK_in (a := a) (by omega))
  simpa [h] using h1
theorem mK_w {a : Nat} (h : cK a = 18 ∨ cK a = 12) : cK (a + 1) = 1 ∧ cL (a + 1) ≤ 1000 ∧ 1 ≤ cL (a + 1) := by
  have h1 := jall mK_1 (cK_in (a := a) (by omega))
  rcases h with h | h <;> simpa [h, and_assoc] using h1
theorem mK_p {a : Nat} (h : cK a = 13) : cK (a + 1) = 18 ∧ cK (a + 3) = 4 ∧ (1 ≤ cL (a + 3) ∧ cL (a + 3) ≤ 25) ∧ ∀ i, i < cL (a + 3) → cK (a + 4 + 2 * i) = 18 := by
  have h1 := jall mK_2 (cK_in (a := a) (by omega))
  simp only [h, decide_true, Bool.not_true, Bool.false_or, Bool.and_eq_true, decide_eq_true_eq] at h1
  exact ⟨h1.1.1.1.1, h1.1.1.1.2, ⟨h1.1.2, h1.1.1.2⟩, fun i hi => of_decide_eq_true (jall h1.2 hi)⟩
section JMM
variable {g h : mj_H} {n : Nat} {V : Nat → Int} {X : Nat → Nat → Int}
theorem jM.W (M : jM g n V X h) {a : Nat} (ka : cK a = 18) (hcl : jnl (V a).natAbs ≤ 1500 := by omega) : wW h a (cL (a + 1)) (V a) := by
  have := M.2.2 a
  rw [ka] at this
  exact (show wX h a (cL (a + 1)) (V a) from this).2 hcl
theorem jM.T (M : jM g n V X h) {a : Nat} (ka : cK a = 18) : wT h a (cL (a + 1)) := by
  have := M.2.2 a
  rw [ka] at this
  exact (show wX h a (cL (a + 1)) (V a) from this).1
theorem jM.D (M : jM g n V X h) {a : Nat} (ka : cK a = 12) (hcl : jnl (V a).natAbs ≤ 1500 := by omega) : wD h a (cL (a + 1)) (V a) := by
  have := M.2.2 a
  rw [ka] at this
  exact (show dX h a (cL (a + 1)) (V a) from this).2 hcl
theorem jM.DT (M : jM g n V X h) {a : Nat} (ka : cK a = 12) : dT h a (cL (a + 1)) := by
  have := M.2.2 a
  rw [ka] at this
  exact (show dX h a (cL (a + 1)) (V a) from this).1
theorem jM.L (M : jM g n V X h) {a : Nat} (ka : cK a = 2) : h[a]? = some (.inl (1, 13, fun j => .long (jl (X a j)))) := by
  have := M.2.2 a
  rw [ka] at this
  exact this
theorem jM.O (M : jM g n V X h) {a : Nat} (k : Nat) (ka : cK a = k) (hk : 7 < k ∧ k ≠ 18 ∧ k ≠ 12) : h[a]? = some (.inr (jkc k, jMf X k a)) := by
  have := M.2.2 a
  unfold jMk at this
  rw [ka, if_neg (by omega), if_neg (by omega), if_neg (by omega), if_neg (by omega), if_neg (by omega), if_neg (by omega), if_neg (by omega)] at this
  exact this
theorem jM.A (M : jM g n V X h) {a : Nat} (k : Nat) (ka : cK a = k) (hk : 4 ≤ k ∧ k ≤ 7) : ∃ f : Nat → Value, h[a]? = some (.inl (jak k, cL a, f)) ∧ ∀ i, i < cL a → f i = .ref (jMg k a i) := by
  have := M.2.2 a
  unfold jMk at this
  rw [ka, if_neg (by omega), if_neg (by omega), if_neg (by omega), if_neg (by omega), if_neg (by omega), if_neg (by omega), if_pos (by omega)] at this
  exact this
/-- some cells are exchanged -/
theorem jM.up (M : jM g n V X h) {h' : mj_H} {V' : Nat → Int} {X' : Nat → Nat → Int} (S : Nat → Prop) (hl : h'.length = h.length) (hS : ∀ a, S a → cK a ≠ 0) (hf : ∀ p, ¬ S p → h'[p]? = h[p]?) (hV : ∀ a, ¬ S a → V' a = V a) (hX : ∀ a, ¬ S a → X' a = X a) (hc : ∀ a, cK a = 18 ∨ cK a = 12 → (S a ↔ S (a + 1))) (hn : ∀ a, S a → jMk V' X' h' (cK a) a) : jM g n V' X' h' := by
  refine ⟨by rw [hl]; exact M.1, fun a ha => ?_, fun a => ?_⟩
  · have : ¬ S a := fun q => hS a q ha
    rw [hf a this]
    exact M.2.1 a ha
  · by_cases q : S a
    · exact hn a q
    · have h1 := M.2.2 a
      have e1 := hf a q
      unfold jMk at h1 ⊢
      by_cases k0 : cK a = 0
      · rw [if_pos k0]
        trivial
      rw [if_neg k0] at h1 ⊢
      by_cases k18 : cK a = 18
      · rw [if_pos k18] at h1 ⊢
        have e2 := hf (a + 1) (fun w => q ((hc a (Or.inl k18)).mpr w))
        unfold wX wT wW at h1 ⊢
        rw [e1, e2, hV a q]
        exact h1
      rw [if_neg k18] at h1 ⊢
      by_cases k12 : cK a = 12
      · rw [if_pos k12] at h1 ⊢
        have e2 := hf (a + 1) (fun w => q ((hc a (Or.inr k12)).mpr w))
        unfold dX dT wD at h1 ⊢
        rw [e1, e2, hV a q]
        exact h1
      rw [if_neg k12] at h1 ⊢
      have ef : ∀ k, jMf X' k a = jMf X k a := fun k => by
        unfold jMf
        rw [hX a q]
      rw [e1, hX a q, ef]
      exact h1
theorem wW_set {h : mj_H} {a m : Nat} {v : Int} {q : Nat → Int32} (ha : a + 1 < h.length) (hq : ∀ j, j < jnl v.natAbs → q j = jn (jlb v.natAbs j : Nat)) (hm : jnl v.natAbs ≤ m) : wW ((h.set a (.inr (8, [.ref (a + 1), .int (jn (jnl v.natAbs : Nat)), .int (jn (jsg v))]))).set (a + 1) (.inl (0, m, fun j => .int (q j)))) a m v := by
  refine ⟨q, ?_, ?_, hq, hm⟩
  · rw [List.getElem?_set_ne (by omega), List.getElem?_set_self (by omega)]
  · rw [List.getElem?_set_self (by rw [List.length_set]; omega)]
theorem wW.lt {h : mj_H} {a m : Nat} {v : Int} (w : wW h a m v) : a + 1 < h.length := by
  obtain ⟨q, _, h2, _⟩ := w
  exact (List.getElem?_eq_some_iff.mp h2).1
theorem wD.lt {h : mj_H} {a m : Nat} {v : Int} (w : wD h a m v) : a + 1 < h.length := by
  obtain ⟨q, _, h2, _⟩ := w
  exact (List.getElem?_eq_some_iff.mp h2).1
/-- a whole number is exchanged -/
theorem jM.setW (M : jM g n V X h) {a : Nat} (ka : cK a = 18) {v : Int} {q : Nat → Int32} (hq : ∀ j, j < jnl v.natAbs → q j = jn (jlb v.natAbs j : Nat)) (hm : jnl v.natAbs ≤ cL (a + 1)) : jM g n (jvu V a v) X ((h.set a (.inr (8, [.ref (a + 1), .int (jn (jnl v.natAbs : Nat)), .int (jn (jsg v))]))).set (a + 1) (.inl (0, cL (a + 1), fun j => .int (q j)))) := by
  have k1 := mK_w (Or.inl ka)
  refine M.up (fun x => x = a ∨ x = a + 1) (by rw [List.length_set, List.length_set]) (fun x hx => ?_) (fun p hp => ?_) (fun x hx => jvu_ne _ _ _ (fun e => hx (Or.inl e))) (fun _ _ => rfl) (fun x hx => ?_) (fun x hx => ?_)
  · rcases hx with e | e <;> subst e <;> omega
  · rw [List.getElem?_set_ne (fun e => hp (Or.inr e.symm)), List.getElem?_set_ne (fun e => hp (Or.inl e.symm))]
  · constructor
    · intro q
      rcases q with e | e
      · exact Or.inr (by omega)
      · subst e
        omega
    · intro q
      rcases q with e | e
      · subst e
        have := mK_w hx
        omega
      · exact Or.inl (by omega)
  · rcases hx with e | e
    · subst e
      rw [ka]
      show wX _ x _ _
      rw [jvu_at]
      have w := wW_set (M.T ka).lt hq hm
      exact ⟨w.T k1.2.1, fun _ => w⟩
    · subst e
      rw [k1.1]
      show _ ∨ _
      exact Or.inl (Or.inl ka)
end JMM
/-! The whole numbers' methods over the class's memory. -/
theorem mj_Ok.lift {D j : Nat} {as : List Value} {K : mj_H} {Q : mj_R → Prop} (c : mj_Ok D j as K Q) (is : List Nat) {h : mj_H} (hlen : is.length = K.length) (hnd : is.Nodup) (hc : ∀ (i p : Nat) (e : mj_E), is[i]? = some p → K[i]? = some e → h[p]? = some (mj_rE (jrho is h.length) e)) (hK : ∀ r, Q r → r.2.length = K.length) :
    mj_Ok D j (as.map (mj_rn (jrho is h.length))) h (fun r => ∃ r0 K', Q (r0, K') ∧ r = (mj_rR (jrho is h.length) r0, jlay (mj_rE (jrho is h.length)) is K' h)) := mj_Ok.at c is hlen hnd (fun p hp => by
  obtain ⟨i, hi⟩ := List.getElem?_of_mem hp
  have hil := (List.getElem?_eq_some_iff.mp hi).1
  have hk : K[i]? = some (K[i]'(by omega)) := List.getElem?_eq_getElem (by omega)
  exact (List.getElem?_eq_some_iff.mp (hc i p _ hi hk)).1) hc hK
theorem mK_ne {a c : Nat} (ka : cK a = 18 ∨ cK a = 12) (kc : cK c = 18 ∨ cK c = 12) (h : a ≠ c) : a + 1 ≠ c ∧ a ≠ c + 1 ∧ a + 1 ≠ c + 1 := by
  have h1 := (mK_w ka).1
  have h2 := (mK_w kc).1
  refine ⟨fun e => ?_, fun e => ?_, by omega⟩
  · rw [e] at h1
    omega
  · rw [← e] at h2
    omega
theorem set_same {h : mj_H} {a : Nat} {e : mj_E} (he : h[a]? = some e) : h.set a e = h := by
  apply List.ext_getElem?
  intro i
  by_cases q : a = i
  · subst q
    rw [List.getElem?_set_self (List.getElem?_eq_some_iff.mp he).1, he]
  · rw [List.getElem?_set_ne q]
theorem set2_at {h : mj_H} {c a : Nat} {e1 e2 e : mj_E} (h1 : a ≠ c) (h2 : a ≠ c + 1) (he : h[a]? = some e) : ((h.set c e1).set (c + 1) e2)[a]? = some e := by
  rw [List.getElem?_set_ne (Ne.symm h2), List.getElem?_set_ne (Ne.symm h1)]
  exact he
theorem lay2 {h : mj_H} {c a : Nat} {e1 e2 A A' : mj_E} (n1 : a ≠ c) (n2 : a ≠ c + 1) (n3 : a + 1 ≠ c) (n4 : a + 1 ≠ c + 1) (a1 : h[a]? = some A) (a2 : h[a + 1]? = some A') : ((((h.set c e1).set (c + 1) e2).set a A).set (a + 1) A') = ((h.set c e1).set (c + 1) e2) := by
  rw [set_same (set2_at n1 n2 a1), set_same (set2_at n3 n4 a2)]
section MWW
variable {g h : mj_H} {n D : Nat} {V : Nat → Int} {X : Nat → Nat → Int}
theorem mW_setLong (M : jM g n V X h) {c : Nat} {v : Int} (kc : cK c = 18) (hv : jR v) (hm : jnl v.natAbs ≤ cL (c + 1)) : mj_Ok (D + 1) 86 [.ref c, .long (jl v)] h (fun r => ∃ h', jM g n (jvu V c v) X h' ∧ r = (.inl none, h')) := by
  obtain ⟨q, s0, g0, hs0, h1, h2⟩ := M.T kc
  have k1 := mK_w (Or.inl kc)
  refine ((jw_setLong (D := D) (n := cL (c + 1)) hv (s0 := jn (s0 : Nat)) (g0 := g0) (g := q) (by omega)).lift [c, c + 1] (h := h) rfl (by simp) (fun i p e hi he => ?_) (fun r hr => ?_)).to (fun r hr => ?_)
  · match i, hi, he with
    | 0, hi, he => cases hi; cases he; exact h1
    | 1, hi, he => cases hi; cases he; exact h2
    | i + 2, hi, he => simp at hi
  · obtain ⟨g', _, _, e⟩ := hr
    rw [e]
    rfl
  · obtain ⟨r0, K', ⟨g', q1, q2, q3⟩, hr⟩ := hr
    cases q3
    rw [Nat.min_eq_right hm] at q1 hr
    exact ⟨_, M.setW kc q1 hm, hr⟩
theorem mW_set (M : jM g n V X h) {c a : Nat} (kc : cK c = 18) (ka : cK a = 18) (hne : a ≠ c) (hm : jnl (V a).natAbs ≤ cL (c + 1)) : mj_Ok (D + 1) 87 [.ref c, .ref a] h (fun r => ∃ h', jM g n (jvu V c (V a)) X h' ∧ r = (.inl none, h')) := by
  obtain ⟨q, s0, g0, hs0, h1, h2⟩ := M.T kc
  have k1 := mK_w (Or.inl kc)
  obtain ⟨p, a1, a2, a3, a4⟩ := M.W ka
  have k2 := mK_w (Or.inl ka)
  have ne := mK_ne (Or.inl ka) (Or.inl kc) hne
  refine ((jw_set (D := D) (n := cL (c + 1)) (m := cL (a + 1)) (s := jnl (V a).natAbs) (sg := jsg (V a)) (s0 := jn (s0 : Nat)) (g0 := g0) (g := q) (q := p) (by omega) (by omega) a4).lift [c, c + 1, a, a + 1] (h := h) rfl (by simp; omega) (fun i p e hi he => ?_) (fun r hr => ?_)).to (fun r hr => ?_)
  · match i, hi, he with
    | 0, hi, he => cases hi; cases he; exact h1
    | 1, hi, he => cases hi; cases he; exact h2
    | 2, hi, he => cases hi; cases he; exact a1
    | 3, hi, he => cases hi; cases he; exact a2
    | i + 4, hi, he => simp at hi
  · obtain ⟨g', _, e⟩ := hr
    rw [e]
    rfl
  · obtain ⟨r0, K', ⟨g', q1, q3⟩, hr⟩ := hr
    cases q3
    rw [Nat.min_eq_left hm] at q1 hr
    have es : (if jnl (V a).natAbs = 0 then 0 else jsg (V a)) = jsg (V a) := by
      split
      · rename_i z
        have := jnl_eq0.mp z
        rw [show V a = 0 by omega]
        rfl
      · rfl
    rw [es] at hr
    refine ⟨_, M.setW kc (q := g') (fun j hj => by rw [q1 j hj, a3 j hj]) hm, hr.trans (congrArg (Prod.mk _) ?_)⟩
    show ((((h.set c _).set (c + 1) _).set a _).set (a + 1) _) = _
    exact lay2 hne ne.2.1 ne.1 ne.2.2 a1 a2
theorem mW_plus (M : jM g n V X h) {c a : Nat} {f : Int} (kc : cK c = 18) (ka : cK a = 18) (hne : a ≠ c) (hf : f = 1 ∨ f = -1) (hm : jnl (V a).natAbs ≤ cL (c + 1)) (hm2 : jnl (V c + f * V a).natAbs ≤ cL (c + 1)) : mj_Ok (D + 2) 91 [.ref c, .ref a, .int (jn f)] h (fun r => ∃ h', jM g n (jvu V c (V c + f * V a)) X h' ∧ r = (.inl none, h')) := by
  have k1 := mK_w (Or.inl kc)
  have hcc : jnl (V c).natAbs ≤ 1500 := by
    have b1 := jnl_le_lt.mp (Nat.le_trans hm k1.2.1)
    have b2 := jnl_le_lt.mp (Nat.le_trans hm2 k1.2.1)
    suffices b6 : jnl (V c).natAbs ≤ 1001 from Nat.le_trans b6 (by decide)
    refine jnl_le_lt.mpr ?_
    have b3 : (V c).natAbs ≤ (V c + f * V a).natAbs + (V a).natAbs := by
      rcases hf with e | e <;> subst e <;> omega
    have b4 : jB ^ 1001 = jB ^ 1000 * jB := Nat.pow_succ jB 1000
    have b5 : jB ^ 1000 * 2 ≤ jB ^ 1000 * jB := Nat.mul_le_mul_left _ (by decide)
    omega
  obtain ⟨q, h1, h2, h3, h4⟩ := M.W kc
  obtain ⟨p, a1, a2, a3, a4⟩ := M.W ka
  have k2 := mK_w (Or.inl ka)
  have ne := mK_ne (Or.inl ka) (Or.inl kc) hne
  refine ((jw_plus (D := D) (n := cL (c + 1)) (m := cL (a + 1)) (u := V c) (w := V a) (f := f) (g := q) (q := p) (by omega) (by omega) hf h4 a4 hm hm2 h3 a3).lift [c, c + 1, a, a + 1] (h := h) rfl (by simp; omega) (fun i p e hi he => ?_) (fun r hr => ?_)).to (fun r hr => ?_)
  · match i, hi, he with
    | 0, hi, he => cases hi; cases he; exact h1
    | 1, hi, he => cases hi; cases he; exact h2
    | 2, hi, he => cases hi; cases he; exact a1
    | 3, hi, he => cases hi; cases he; exact a2
    | i + 4, hi, he => simp at hi
  · obtain ⟨g', _, e⟩ := hr
    rw [e]
    rfl
  · obtain ⟨r0, K', ⟨g', q1, q3⟩, hr⟩ := hr
    cases q3
    refine ⟨_, M.setW kc (q := g') q1 hm2, hr.trans (congrArg (Prod.mk _) ?_)⟩
    show ((((h.set c _).set (c + 1) _).set a _).set (a + 1) _) = _
    exact lay2 hne ne.2.1 ne.1 ne.2.2 a1 a2
theorem mW_setProduct (M : jM g n V X h) {c a b : Nat} (kc : cK c = 18) (ka : cK a = 18) (kb : cK b = 18) (hne : a ≠ c) (hnb : b ≠ c) (hab : a ≠ b) (hm : jnl (V a * V b).natAbs ≤ cL (c + 1)) (hca : jnl (V a).natAbs ≤ 1500 := by omega) (hcb : jnl (V b).natAbs ≤ 1500 := by omega) : mj_Ok (D + 1) 95 [.ref c, .ref a, .ref b] h (fun r => ∃ h', jM g n (jvu V c (V a * V b)) X h' ∧ r = (.inl none, h')) := by
  obtain ⟨q, s0, g0, hs0, h1, h2⟩ := M.T kc
  obtain ⟨p, a1, a2, a3, a4⟩ := M.W ka
  obtain ⟨s, b1, b2, b3, b4⟩ := M.W kb
  have k1 := mK_w (Or.inl kc)
  have k2 := mK_w (Or.inl ka)
  have k3 := mK_w (Or.inl kb)
  have ne := mK_ne (Or.inl ka) (Or.inl kc) hne
  have nb := mK_ne (Or.inl kb) (Or.inl kc) hnb
  have nab := mK_ne (Or.inl ka) (Or.inl kb) hab
  refine ((jw_setProduct (D := D) (n := cL (c + 1)) (m1 := cL (a + 1)) (m2 := cL (b + 1)) (u := V a) (w := V b) (s0 := jn (s0 : Nat)) (g0 := g0) (g := q) (q1 := p) (q2 := s) (by omega) (by omega) (by omega) a4 b4 hm a3 b3).lift [c, c + 1, a, a + 1, b, b + 1] (h := h) rfl (by simp; omega) (fun i p e hi he => ?_) (fun r hr => ?_)).to (fun r hr => ?_)
  · match i, hi, he with
    | 0, hi, he => cases hi; cases he; exact h1
    | 1, hi, he => cases hi; cases he; exact h2
    | 2, hi, he => cases hi; cases he; exact a1
    | 3, hi, he => cases hi; cases he; exact a2
    | 4, hi, he => cases hi; cases he; exact b1
    | 5, hi, he => cases hi; cases he; exact b2
    | i + 6, hi, he => simp at hi
  · obtain ⟨g', _, e⟩ := hr
    rw [e]
    rfl
  · obtain ⟨r0, K', ⟨g', q1, q3⟩, hr⟩ := hr
    cases q3
    refine ⟨_, M.setW kc (q := g') q1 hm, hr.trans (congrArg (Prod.mk _) ?_)⟩
    show ((((((h.set c _).set (c + 1) _).set a _).set (a + 1) _).set b _).set (b + 1) _) = _
    refine Eq.trans (congrArg (fun z : mj_H => (z.set b _).set (b + 1) _) (lay2 hne ne.2.1 ne.1 ne.2.2 a1 a2)) (lay2 hnb nb.2.1 nb.1 nb.2.2 b1 b2)
theorem mW_scale (M : jM g n V X h) {c f : Nat} (kc : cK c = 18) (hf : 0 < f) (hf2 : f ≤ 1000000000) (hm : jnl (V c * (f : Int)).natAbs ≤ cL (c + 1)) : mj_Ok (D + 1) 96 [.ref c, .long (jl (f : Int))] h (fun r => ∃ h', jM g n (jvu V c (V c * (f : Int))) X h' ∧ r = (.inl none, h')) := by
  have k1 := mK_w (Or.inl kc)
  have ea : (V c * (f : Int)).natAbs = (V c).natAbs * f := by rw [Int.natAbs_mul, Int.natAbs_natCast]
  have hcc : jnl (V c).natAbs ≤ 1500 := by
    have q := jnl_mono (show (V c).natAbs ≤ (V c * (f : Int)).natAbs by rw [ea]; exact Nat.le_mul_of_pos_right _ hf)
    omega
  obtain ⟨q, h1, h2, h3, h4⟩ := M.W kc
  have es : jsg (V c * (f : Int)) = jsg (V c) := by
    unfold jsg
    have p1 : V c * (f : Int) < 0 ↔ V c < 0 := by
      constructor
      · intro q
        rcases Int.lt_or_le (V c) 0 with w | w
        · exact w
        · have := Int.mul_nonneg w (show (0 : Int) ≤ f by omega)
          omega
      · intro q
        exact Int.mul_neg_of_neg_of_pos q (by omega)
    have p2 : 0 < V c * (f : Int) ↔ 0 < V c := by
      constructor
      · intro q
        rcases Int.lt_or_le 0 (V c) with w | w
        · exact w
        · have := Int.mul_nonpos_of_nonpos_of_nonneg w (show (0 : Int) ≤ f by omega)
          omega
      · intro q
        exact Int.mul_pos q (by omega)
    simp only [p1, p2]
  rw [ea] at hm
  refine ((jw_scale (D := D) (n := cL (c + 1)) (x := (V c).natAbs) (f := f) (g0 := jn (jsg (V c))) (g := q) (by omega) hf hf2 hm h3).lift [c, c + 1] (h := h) rfl (by simp) (fun i p e hi he => ?_) (fun r hr => ?_)).to (fun r hr => ?_)
  · match i, hi, he with
    | 0, hi, he => cases hi; cases he; exact h1
    | 1, hi, he => cases hi; cases he; exact h2
    | i + 2, hi, he => simp at hi
  · obtain ⟨g', _, e⟩ := hr
    rw [e]
    rfl
  · obtain ⟨r0, K', ⟨g', q1, q3⟩, hr⟩ := hr
    cases q3
    have hs := M.setW kc (v := V c * (f : Int)) (q := g') (by rw [ea]; exact q1) (by rw [ea]; exact hm)
    rw [ea, es] at hs
    exact ⟨_, hs, hr⟩
theorem mW_cut (M : jM g n V X h) {c f : Nat} (kc : cK c = 18) (hf : 0 < f) (hf2 : f ≤ 1000000000) (hcc : jnl (V c).natAbs ≤ 1500 := by omega) : mj_Ok (D + 1) 97 [.ref c, .long (jl (f : Int))] h (fun r => ∃ h', jM g n (jvu V c ((V c).tdiv (f : Int))) X h' ∧ r = (.inl none, h')) := by
  obtain ⟨q, h1, h2, h3, h4⟩ := M.W kc
  have k1 := mK_w (Or.inl kc)
  have ea : ((V c).tdiv (f : Int)).natAbs = (V c).natAbs / f := by rw [Int.natAbs_tdiv, Int.natAbs_natCast]; rfl
  have es : jsg ((V c).tdiv (f : Int)) = if (V c).natAbs / f = 0 then 0 else jsg (V c) := by
    rw [jsg_tdiv, Int.natAbs_natCast, jsg_pos (v := (f : Int)) (by omega), Int.mul_one]
  refine ((jw_cut (D := D) (n := cL (c + 1)) (x := (V c).natAbs) (f := f) (s := jsg (V c)) (g := q) (by omega) hf hf2 h4 h3).lift [c, c + 1] (h := h) rfl (by simp) (fun i p e hi he => ?_) (fun r hr => ?_)).to (fun r hr => ?_)
  · match i, hi, he with
    | 0, hi, he => cases hi; cases he; exact h1
    | 1, hi, he => cases hi; cases he; exact h2
    | i + 2, hi, he => simp at hi
  · obtain ⟨g', _, e⟩ := hr
    rw [e]
    rfl
  · obtain ⟨r0, K', ⟨g', q1, q3⟩, hr⟩ := hr
    cases q3
    have hle : jnl ((V c).natAbs / f) ≤ jnl (V c).natAbs := jnl_mono (Nat.div_le_self _ _)
    have hs := M.setW kc (v := (V c).tdiv (f : Int)) (q := g') (by rw [ea]; exact fun j hj => q1 j (by omega)) (by rw [ea]; omega)
    rw [ea, es] at hs
    exact ⟨_, hs, hr⟩
end MWW
/-! Rules for the steps over the class's memory; the divisor. -/
section MTR
variable {g h : mj_H} {n D pc nm ci f r1 r2 r3 r4 r5 : Nat} {V : Nat → Int} {X : Nat → Nat → Int} {M : mj_M} {loc : mj_L} {st : List Value} {Q : mj_R → Prop}
theorem jM.setO (m : jM g n V X h) {a i k : Nat} {v : Int} (ka : cK a = k) (hk : 7 < k ∧ k ≠ 18 ∧ k ≠ 12) (he : jMf (xup X a i v) k a = (jMf X k a).set i (.int (jn v))) : jM g n V (xup X a i v) (h.set a (.inr (jkc k, (jMf X k a).set i (.int (jn v))))) := by
  have hl := (List.getElem?_eq_some_iff.mp (m.O k ka hk)).1
  refine m.up (fun x => x = a) (by rw [List.length_set]) (fun x hx => by subst hx; omega) (fun p hp => List.getElem?_set_ne (fun e => hp e.symm)) (fun _ _ => rfl) (fun x hx => funext fun j => xup_ne _ _ (Or.inl hx)) (fun x hx => ?_) (fun x hx => ?_)
  · have := mK_w hx
    constructor
    · intro e
      subst e
      omega
    · intro e
      rw [e] at this
      omega
  · subst hx
    unfold jMk
    rw [ka, if_neg (by omega), if_neg (by omega), if_neg (by omega), if_neg (by omega), if_neg (by omega), if_neg (by omega), if_neg (by omega), he, List.getElem?_set_self hl]
theorem mT_get (m : jM g n V X h) {a : Nat} (k : Nat) {v : Value} (ka : cK a = k) (hk : 7 < k ∧ k ≠ 18 ∧ k ≠ 12) (hc : M.2.2.2.2.1 pc = some (.getfield nm, jkc k, f, r3, r4, r5)) (hf : (jMf X k a)[f]? = some v) (q : mj_T D M (pc + 3) loc (v :: st) h Q) : mj_T D M pc loc (.ref a :: st) h Q := mj_T.gfl hc (m.O k ka hk) hf q
theorem mT_put (m : jM g n V X h) {a : Nat} (k : Nat) {v : Int} (ka : cK a = k) (hk : 7 < k ∧ k ≠ 18 ∧ k ≠ 12) (hc : M.2.2.2.2.1 pc = some (.putfield nm, jkc k, f, r3, r4, r5)) (he : jMf (xup X a f v) k a = (jMf X k a).set f (.int (jn v))) (hl : f < (jMf X k a).length) (hv : mj_fit r3 (.int (jn v)) = true) (q : ∀ h', jM g n V (xup X a f v) h' → mj_T D M (pc + 3) loc st h' Q) : mj_T D M pc loc (.int (jn v) :: .ref a :: st) h Q := mj_T.pfl hc (m.O k ka hk) hl hv (q _ (m.setO ka hk he))
theorem mT_sz (m : jM g n V X h) {a : Nat} (ka : cK a = 18) (hc : M.2.2.2.2.1 pc = some (.getfield nm, 8, 1, r3, r4, r5)) (q : mj_T D M (pc + 3) loc (.int (jn (jnl (V a).natAbs : Nat)) :: st) h Q) (hcl : jnl (V a).natAbs ≤ 1500 := by omega) : mj_T D M pc loc (.ref a :: st) h Q := by
  obtain ⟨p, h1, _⟩ := m.W ka
  exact mj_T.gfl hc h1 rfl q
theorem mT_sg (m : jM g n V X h) {a : Nat} (ka : cK a = 18) (hc : M.2.2.2.2.1 pc = some (.getfield nm, 8, 2, r3, r4, r5)) (q : mj_T D M (pc + 3) loc (.int (jn (jsg (V a))) :: st) h Q) (hcl : jnl (V a).natAbs ≤ 1500 := by omega) : mj_T D M pc loc (.ref a :: st) h Q := by
  obtain ⟨p, h1, _⟩ := m.W ka
  exact mj_T.gfl hc h1 rfl q
theorem jsg_ng (v w : Int) (hw : w.natAbs = v.natAbs) (h : jsg w = jsg v ∨ jsg w = - jsg v) : jnl w.natAbs = jnl v.natAbs := by rw [hw]
/-- the sign alone is exchanged -/
theorem mT_psg (m : jM g n V X h) {a : Nat} {s w : Int} (ka : cK a = 18) (hw : w.natAbs = (V a).natAbs) (hs : jsg w = s) (hc : M.2.2.2.2.1 pc = some (.putfield nm, 8, 2, 0, r4, r5)) (q : ∀ h', jM g n (jvu V a w) X h' → mj_T D M (pc + 3) loc st h' Q) (hcl : jnl (V a).natAbs ≤ 1500 := by omega) : mj_T D M pc loc (.int (jn s) :: .ref a :: st) h Q := by
  obtain ⟨p, h1, h2, h3, h4⟩ := m.W ka
  refine mj_T.pfl hc h1 (by decide : 2 < 3) rfl (q _ ?_)
  have hM := m.setW ka (v := w) (q := p) (by rw [hw]; exact h3) (by rw [hw]; exact h4)
  rw [hw, hs] at hM
  have e2 : ((h.set a (.inr (8, [.ref (a + 1), .int (jn (jnl (V a).natAbs : Nat)), .int (jn s)]))).set (a + 1) (.inl (0, cL (a + 1), fun j => .int (p j)))) = h.set a (.inr (8, [.ref (a + 1), .int (jn (jnl (V a).natAbs : Nat)), .int (jn s)])) := set_same (by rw [List.getElem?_set_ne (by omega)]; exact h2)
  rw [e2] at hM
  exact hM
theorem mT_lald (m : jM g n V X h) {a : Nat} {i : Int} (ka : cK a = 2) (hc : M.2.2.2.2.1 pc = some (.laload, r1, r2, r3, r4, r5)) (h0 : 0 ≤ i ∧ i < 13) (q : mj_T D M (pc + 1) loc (.long (jl (X a i.toNat)) :: st) h Q) : mj_T D M pc loc (.int (jn i) :: .ref a :: st) h Q := mj_T.lald (g := fun j => jl (X a j)) hc (m.L ka) ⟨by omega, by omega⟩ h0 q
theorem jM.setL (m : jM g n V X h) {a i : Nat} {v : Int} (ka : cK a = 2) : jM g n V (xup X a i v) (h.set a (.inl (1, 13, fun j => .long (if j = i then jl v else jl (X a j))))) := by
  have hl := (List.getElem?_eq_some_iff.mp (m.L ka)).1
  refine m.up (fun x => x = a) (by rw [List.length_set]) (fun x hx => by subst hx; omega) (fun p hp => List.getElem?_set_ne (fun e => hp e.symm)) (fun _ _ => rfl) (fun x hx => funext fun j => xup_ne _ _ (Or.inl hx)) (fun x hx => ?_) (fun x hx => ?_)
  · have := mK_w hx
    constructor
    · intro e
      subst e
      omega
    · intro e
      rw [e] at this
      omega
  · subst hx
    unfold jMk
    rw [ka, if_neg (by decide), if_neg (by decide), if_neg (by decide), if_neg (by decide), if_pos rfl, List.getElem?_set_self hl]
    congr 4
    funext j
    unfold xup
    by_cases q : j = i
    · rw [if_pos q, if_pos ⟨rfl, q⟩]
    · rw [if_neg q, if_neg (fun w => q w.2)]
theorem mT_last (m : jM g n V X h) {a : Nat} {i v : Int} (ka : cK a = 2) (hc : M.2.2.2.2.1 pc = some (.lastore, r1, r2, r3, r4, r5)) (h0 : 0 ≤ i ∧ i < 13) (q : ∀ h', jM g n V (xup X a i.toNat v) h' → mj_T D M (pc + 1) loc st h' Q) : mj_T D M pc loc (.long (jl v) :: .int (jn i) :: .ref a :: st) h Q := mj_T.last (g := fun j => jl (X a j)) hc (m.L ka) ⟨by omega, by omega⟩ h0 (q _ (m.setL ka))
theorem mT_aald (m : jM g n V X h) {a : Nat} {i : Int} (k : Nat) (ka : cK a = k) (hk : 4 ≤ k ∧ k ≤ 7) (hr : mj_isref (jak k) = true) (hc : M.2.2.2.2.1 pc = some (.aaload, r1, r2, r3, r4, r5)) (hi : i ≤ 1000) (h0 : 0 ≤ i ∧ i < (cL a : Int)) (q : mj_T D M (pc + 1) loc (.ref (jMg k a i.toNat) :: st) h Q) : mj_T D M pc loc (.int (jn i) :: .ref a :: st) h Q := by
  obtain ⟨p, h1, h2⟩ := m.A k ka hk
  refine mj_T.aald hc h1 hr ⟨by omega, by omega⟩ h0 ?_
  rw [h2 i.toNat (by omega)]
  exact q
theorem mT_alen (m : jM g n V X h) {a : Nat} (k : Nat) (ka : cK a = k) (hk : 4 ≤ k ∧ k ≤ 7) (hc : M.2.2.2.2.1 pc = some (.arraylength, r1, r2, r3, r4, r5)) (q : mj_T D M (pc + 1) loc (.int (jn (cL a : Nat)) :: st) h Q) : mj_T D M pc loc (.ref a :: st) h Q := by
  obtain ⟨p, h1, _⟩ := m.A k ka hk
  exact mj_T.alen hc h1 q
theorem mT_llen (m : jM g n V X h) {a : Nat} (ka : cK a = 2) (hc : M.2.2.2.2.1 pc = some (.arraylength, r1, r2, r3, r4, r5)) (q : mj_T D M (pc + 1) loc (.int (jn ((13 : Nat) : Int)) :: st) h Q) : mj_T D M pc loc (.ref a :: st) h Q := mj_T.alen hc (m.L ka) q
/-- the receiver of a call -/
theorem mV_of (m : jM g n V X h) {a : Nat} (k : Nat) {c q2 : Nat} (ka : cK a = k) (hk : 7 < k) (hcl : jkc k = c) (hr : 1 ≤ q2) (hd : st.drop (q2 - 1) = .ref a :: st.drop q2) : ∀ j, mj_recv (.invokevirtual j) q2 c st h = true := by
  intro j
  have ho : ∃ fs, h[a]? = some (.inr (c, fs)) := by
    by_cases k1 : k = 18
    · subst k1
      obtain ⟨p, _, _, _, h1, _⟩ := m.T ka
      exact ⟨_, by rw [h1, ← hcl]; rfl⟩
    · by_cases k2 : k = 12
      · subst k2
        obtain ⟨p, _, _, _, _, h1, _⟩ := m.DT ka
        exact ⟨_, by rw [h1, ← hcl]; rfl⟩
      · exact ⟨_, by rw [m.O k ka ⟨hk, k1, k2⟩, hcl]⟩
  obtain ⟨fs, ho⟩ := ho
  match q2, hr, hd with
  | q2 + 1, _, hd => simp only [mj_recv, hd, ho, decide_true]
end MTR
section MWD
variable {g h : mj_H} {n D : Nat} {V : Nat → Int} {X : Nat → Nat → Int}
theorem jM.setD (M : jM g n V X h) {a : Nat} (ka : cK a = 12) {v : Int} {q : Nat → Int32} (hq : ∀ j, j < jnl v.natAbs → q j = jn (jlb (v.natAbs * jfa v.natAbs) j : Nat)) (hm : jnl v.natAbs ≤ cL (a + 1)) : jM g n (jvu V a v) X ((h.set a (.inr (2, [.ref (a + 1), .int (jn (jnl v.natAbs : Nat)), .int (jn (jsg v)), .long (jl (jfa v.natAbs : Nat))]))).set (a + 1) (.inl (0, cL (a + 1), fun j => .int (q j)))) := by
  have k1 := mK_w (Or.inr ka)
  have hl := (M.DT ka).lt
  refine M.up (fun x => x = a ∨ x = a + 1) (by rw [List.length_set, List.length_set]) (fun x hx => ?_) (fun p hp => ?_) (fun x hx => jvu_ne _ _ _ (fun e => hx (Or.inl e))) (fun _ _ => rfl) (fun x hx => ?_) (fun x hx => ?_)
  · rcases hx with e | e <;> subst e <;> omega
  · rw [List.getElem?_set_ne (fun e => hp (Or.inr e.symm)), List.getElem?_set_ne (fun e => hp (Or.inl e.symm))]
  · constructor
    · intro q
      rcases q with e | e
      · exact Or.inr (by omega)
      · subst e
        omega
    · intro q
      rcases q with e | e
      · subst e
        have := mK_w hx
        omega
      · exact Or.inl (by omega)
  · rcases hx with e | e
    · subst e
      rw [ka]
      show dX _ x _ _
      rw [jvu_at]
      suffices w : wD _ x _ v from ⟨w.T (Nat.le_of_eq (mK_d ka)), fun _ => w⟩
      refine ⟨q, ?_, ?_, hq, hm⟩
      · rw [List.getElem?_set_ne (by omega), List.getElem?_set_self (by omega)]
      · rw [List.getElem?_set_self (by rw [List.length_set]; omega)]
    · subst e
      rw [k1.1]
      show _ ∨ _
      exact Or.inl (Or.inr ka)
theorem mW_prepare (M : jM g n V X h) {c a : Nat} (kc : cK c = 12) (ka : cK a = 18) (hm : jnl (V a).natAbs ≤ cL (c + 1)) : mj_Ok (D + 1) 30 [.ref c, .ref a] h (fun r => ∃ h', jM g n (jvu V c (V a)) X h' ∧ r = (.inl none, h')) := by
  obtain ⟨q, s0, g0, f0, hs0, h1, h2⟩ := M.DT kc
  have k1 := mK_w (Or.inr kc)
  obtain ⟨p, a1, a2, a3, a4⟩ := M.W ka
  have k2 := mK_w (Or.inl ka)
  have hne : a ≠ c := fun e => by subst e; omega
  have ne := mK_ne (Or.inl ka) (Or.inr kc) hne
  refine ((jw_prepare (D := D) (nd := cL (c + 1)) (m := cL (a + 1)) (x := (V a).natAbs) (s0 := jn (s0 : Nat)) (sv0 := g0) (fac0 := f0) (s2 := jsg (V a)) (gv := q) (gy := p) (by omega) (by omega) hm a4 a3).lift [c, c + 1, a, a + 1] (h := h) rfl (by simp; omega) (fun i p e hi he => ?_) (fun r hr => ?_)).to (fun r hr => ?_)
  · match i, hi, he with
    | 0, hi, he => cases hi; cases he; exact h1
    | 1, hi, he => cases hi; cases he; exact h2
    | 2, hi, he => cases hi; cases he; exact a1
    | 3, hi, he => cases hi; cases he; exact a2
    | i + 4, hi, he => simp at hi
  · obtain ⟨g', _, e⟩ := hr
    rw [e]
    rfl
  · obtain ⟨r0, K', ⟨g', q1, q3⟩, hr⟩ := hr
    cases q3
    refine ⟨_, M.setD kc (v := V a) (q := g') q1 hm, hr.trans (congrArg (Prod.mk _) ?_)⟩
    exact lay2 hne ne.2.1 ne.1 ne.2.2 a1 a2
theorem jfa_room {x m : Nat} (h : jnl x + 1 ≤ m) : jnl (x * jfa x) ≤ m := by
  rw [jfa_nl]
  omega
/-- a number is divided; the remainder stands in its place -/
theorem mW_split (M : jM g n V X h) {c a b : Nat} (kc : cK c = 12) (ka : cK a = 18) (kb : cK b = 18) (hab : a ≠ b) (hX : jnl ((V a).natAbs * jfa (V c).natAbs) ≤ cL (a + 1)) (hm : jnl ((V a).tdiv (V c)).natAbs ≤ cL (b + 1)) (hcc : jnl (V c).natAbs ≤ 1500 := by omega) : mj_Ok (D + 2) 31 [.ref c, .ref a, .ref b] h (fun r => ∃ h', jM g n (jvu (jvu V a ((V a).tmod (V c))) b ((V a).tdiv (V c))) X h' ∧ r = (.inl none, h')) := by
  obtain ⟨q, h1, h2, h3, h4⟩ := M.D kc
  have k1 := mK_w (Or.inr kc)
  have k2 := mK_w (Or.inl ka)
  have hca2 : jnl (V a).natAbs ≤ 1500 := by
    have q := jnl_mono (show (V a).natAbs ≤ (V a).natAbs * jfa (V c).natAbs from Nat.le_mul_of_pos_right _ (jfa_pos _).1)
    omega
  obtain ⟨p, a1, a2, a3, a4⟩ := M.W ka
  obtain ⟨s, s0, g0, hs0, b1, b2⟩ := M.T kb
  have k3 := mK_w (Or.inl kb)
  have hca : c ≠ a := fun e => by subst e; omega
  have hcb : c ≠ b := fun e => by subst e; omega
  have nca := mK_ne (Or.inr kc) (Or.inl ka) hca
  have ncb := mK_ne (Or.inr kc) (Or.inl kb) hcb
  have nab := mK_ne (Or.inl ka) (Or.inl kb) hab
  refine ((jw_split (D := D) (nd := cL (c + 1)) (m := cL (a + 1)) (nq := cL (b + 1)) (u := V a) (v := V c) (sz0 := s0) (g0 := g0) (gv := q) (gy := p) (gq := s) (by omega) (by omega) (by omega) h4 hX hm h3 a3).lift [c, c + 1, a, a + 1, b, b + 1] (h := h) rfl (by simp; omega) (fun i p e hi he => ?_) (fun r hr => ?_)).to (fun r hr => ?_)
  · match i, hi, he with
    | 0, hi, he => cases hi; cases he; exact h1
    | 1, hi, he => cases hi; cases he; exact h2
    | 2, hi, he => cases hi; cases he; exact a1
    | 3, hi, he => cases hi; cases he; exact a2
    | 4, hi, he => cases hi; cases he; exact b1
    | 5, hi, he => cases hi; cases he; exact b2
    | i + 6, hi, he => simp at hi
  · obtain ⟨g', g'', _, _, e⟩ := hr
    rw [e]
    rfl
  · obtain ⟨r0, K', ⟨g', g'', q1, q2, q3⟩, hr⟩ := hr
    cases q3
    have hle : jnl ((V a).tmod (V c)).natAbs ≤ cL (a + 1) := Nat.le_trans (jnl_mono (by rw [Int.natAbs_tmod]; exact Nat.mod_le _ _)) a4
    have M1 := M.setW ka (v := (V a).tmod (V c)) (q := g') q1 hle
    have M2 := M1.setW kb (v := (V a).tdiv (V c)) (q := g'') q2 hm
    refine ⟨_, M2, hr.trans (congrArg (Prod.mk _) ?_)⟩
    refine congrArg (fun z : mj_H => (z.set b _).set (b + 1) _) (congrArg (fun z : mj_H => (z.set a _).set (a + 1) _) ?_)
    exact (congrArg (fun z : mj_H => z.set (c + 1) _) (set_same h1)).trans (set_same h2)
end MWD
/-! Where the class's things lie. -/
theorem cq_d2 : cK 2 = 10 := by decide +kernel
theorem cq_d12 : cK 12 = 7 := by decide +kernel
theorem cq_d13 : cK 13 = 27 := by decide +kernel
theorem cq_d15 : cK 15 = 17 := by decide +kernel
theorem cq_d17 : cK 17 = 17 := by decide +kernel
theorem cq_d19 : cK 19 = 11 := by decide +kernel
theorem cq_d20 : cK 20 = 13 := by decide +kernel
theorem cq_d50 : cK 50 = 13 := by decide +kernel
theorem cq_d80 : cK 80 = 13 := by decide +kernel
theorem cq_d110 : cK 110 = 13 := by decide +kernel
theorem cq_d164 : cK 164 = 18 := by decide +kernel
theorem cq_d166 : cK 166 = 18 := by decide +kernel
theorem cq_d168 : cK 168 = 18 := by decide +kernel
theorem cq_d170 : cK 170 = 12 := by decide +kernel
theorem cq_d172 : cK 172 = 16 := by decide +kernel
theorem cq_d173 : cK 173 = 5 := by decide +kernel
theorem cq_d174 : cK 174 = 18 := by decide +kernel
theorem cq_d176 : cK 176 = 18 := by decide +kernel
theorem cq_d178 : cK 178 = 18 := by decide +kernel
theorem cq_d444 : cK 444 = 15 := by decide +kernel
theorem cq_d445 : cK 445 = 18 := by decide +kernel
theorem cq_d447 : cK 447 = 18 := by decide +kernel
theorem cq_d449 : cK 449 = 18 := by decide +kernel
theorem cq_d451 : cK 451 = 18 := by decide +kernel
theorem cq_d453 : cK 453 = 18 := by decide +kernel
theorem cq_d455 : cK 455 = 14 := by decide +kernel
theorem cq_d456 : cK 456 = 6 := by decide +kernel
theorem cq_d466 : cK 466 = 6 := by decide +kernel
theorem cq_d476 : cK 476 = 2 := by decide +kernel
theorem cq_d477 : cK 477 = 18 := by decide +kernel
theorem cq_d479 : cK 479 = 18 := by decide +kernel
theorem cq_d481 : cK 481 = 2 := by decide +kernel
theorem cq_d482 : cK 482 = 2 := by decide +kernel
theorem mK_4 : ((List.range 563).all (fun a => !(decide (cK a = 10)) || (decide (cK (a + 1) = 6) && decide (cL (a + 1) = 6) && (List.range 6).all fun i => decide (cK (a + 2 + i) = 2)))) = true := by decide +kernel
theorem mK_b {a : Nat} (h : cK a = 10) : cK (a + 1) = 6 ∧ cL (a + 1) = 6 ∧ ∀ i, i < 6 → cK (a + 2 + i) = 2 := by
  have h1 := jall mK_4 (cK_in (a := a) (by omega))
  simp only [h, decide_true, Bool.not_true, Bool.false_or, Bool.and_eq_true, decide_eq_true_eq] at h1
  exact ⟨h1.1.1, h1.1.2, fun i hi => of_decide_eq_true (jall h1.2 hi)⟩
theorem mK_5 : ((List.range 9).all (fun i => decide (cK (457 + i) = 2) && decide (cK (467 + i) = 2)) && decide (cL 456 = 9) && decide (cL 466 = 9) && decide (cL 173 = 14) && decide (cL 12 = 8) && (List.range 14).all (fun i => decide (cK (sro i) = 13) && decide (cL (sro i + 3) = if i < 2 then 13 else 14 - i)) && (List.range 8).all (fun i => decide (cK (483 + 10 * i) = 10))) = true := by decide +kernel
theorem mK_r : (∀ i, i < 9 → cK (457 + i) = 2 ∧ cK (467 + i) = 2) ∧ cL 456 = 9 ∧ cL 466 = 9 ∧ cL 173 = 14 ∧ cL 12 = 8 ∧ (∀ i, i < 14 → cK (sro i) = 13 ∧ cL (sro i + 3) = if i < 2 then 13 else 14 - i) ∧ ∀ i, i < 8 → cK (483 + 10 * i) = 10 := by
  have h := mK_5
  simp only [Bool.and_eq_true, decide_eq_true_eq] at h
  obtain ⟨⟨⟨⟨⟨⟨a, b⟩, c⟩, d⟩, e⟩, f⟩, g⟩ := h
  refine ⟨fun i hi => ?_, b, c, d, e, fun i hi => ?_, fun i hi => of_decide_eq_true (jall g hi)⟩
  · have := jall a hi
    simpa using this
  · have := jall f hi
    simp only [Bool.and_eq_true, decide_eq_true_eq] at this
    exact this
/-- how many coefficients; how much room they have -/
theorem mK_6 : (decide (cL 23 = 13) && decide (cL 53 = 13) && decide (cL 83 = 13) && decide (cL 113 = 25) && (List.range 13).all (fun i => decide (cL (20 + 4 + 2 * i + 1) = 30) && decide (cL (50 + 4 + 2 * i + 1) = 30) && decide (cL (80 + 4 + 2 * i + 1) = 236)) && (List.range 25).all (fun i => decide (cL (110 + 4 + 2 * i + 1) = 6)) && (List.range 14).all (fun k => (List.range (if k < 2 then 13 else 14 - k)).all fun i => decide (cL (sro k + 4 + 2 * i + 1) = if k < 2 then 30 - 2 * i else 56 - 4 * i)) && decide (cL 165 = 240) && decide (cL 167 = 240) && decide (cL 169 = 40) && decide (cL 171 = 60) && decide (cL 175 = 60) && decide (cL 177 = 60) && decide (cL 179 = 3) && decide (cL 446 = 12) && decide (cL 478 = 10) && decide (cL 480 = 10)) = true := by decide +kernel
theorem mK_z : cL 23 = 13 ∧ cL 53 = 13 ∧ cL 83 = 13 ∧ cL 113 = 25 ∧ (∀ i, i < 13 → cL (20 + 4 + 2 * i + 1) = 30 ∧ cL (50 + 4 + 2 * i + 1) = 30 ∧ cL (80 + 4 + 2 * i + 1) = 236) ∧ (∀ i, i < 25 → cL (110 + 4 + 2 * i + 1) = 6) ∧ (∀ k, k < 14 → ∀ i, i < (if k < 2 then 13 else 14 - k) → cL (sro k + 4 + 2 * i + 1) = if k < 2 then 30 - 2 * i else 56 - 4 * i) ∧ cL 165 = 240 ∧ cL 167 = 240 ∧ cL 169 = 40 ∧ cL 171 = 60 ∧ cL 175 = 60 ∧ cL 177 = 60 ∧ cL 179 = 3 ∧ cL 446 = 12 ∧ cL 478 = 10 ∧ cL 480 = 10 := by
  have h := mK_6
  simp only [Bool.and_eq_true, decide_eq_true_eq] at h
  obtain ⟨⟨⟨⟨⟨⟨⟨⟨⟨⟨⟨⟨⟨⟨⟨⟨a1, a2⟩, a3⟩, a4⟩, a5⟩, a6⟩, a7⟩, b1⟩, b2⟩, b3⟩, b4⟩, b5⟩, b6⟩, b7⟩, b8⟩, b9⟩, b10⟩ := h
  refine ⟨a1, a2, a3, a4, fun i hi => ?_, fun i hi => of_decide_eq_true (jall a6 hi), fun k hk i hi => of_decide_eq_true (jall (jall a7 hk) hi), b1, b2, b3, b4, b5, b6, b7, b8, b9, b10⟩
  have := jall a5 hi
  simp only [Bool.and_eq_true, decide_eq_true_eq] at this
  exact ⟨this.1.1, this.1.2, this.2⟩
/-- coefficients of a polynomial of the memory -/
def pco (V : Nat → Int) (p : Nat) : Nat → Int := fun i => V (p + 4 + 2 * i)
def pfl (V : Nat → Int) (p : Nat) (w : Nat → Int) (k : Nat) : Nat → Int := fun a => if p + 4 ≤ a ∧ a < p + 4 + 2 * k ∧ (a - p) % 2 = 0 then w ((a - p - 4) / 2) else V a
theorem pfl_zero (V : Nat → Int) (p : Nat) (w : Nat → Int) : pfl V p w 0 = V := funext fun a => if_neg (by omega)
theorem pfl_at (V : Nat → Int) (p : Nat) (w : Nat → Int) {k e : Nat} (h : e < k) : pfl V p w k (p + 4 + 2 * e) = w e := by
  unfold pfl
  rw [if_pos (by omega), show (p + 4 + 2 * e - p - 4) / 2 = e by omega]
theorem pfl_off (V : Nat → Int) (p : Nat) (w : Nat → Int) {k a : Nat} (h : a < p + 4 ∨ p + 4 + 2 * k ≤ a) : pfl V p w k a = V a := if_neg (by omega)
theorem pfl_succ (V : Nat → Int) (p : Nat) (w : Nat → Int) (k : Nat) : pfl V p w (k + 1) = jvu (pfl V p w k) (p + 4 + 2 * k) (w k) := funext fun a => by
  simp only [pfl, jvu]
  by_cases c : a = p + 4 + 2 * k
  · rw [if_pos c, if_pos (by omega), c, show (p + 4 + 2 * k - p - 4) / 2 = k by omega]
  · rw [if_neg c]
    by_cases d : p + 4 ≤ a ∧ a < p + 4 + 2 * k ∧ (a - p) % 2 = 0
    · rw [if_pos d, if_pos (by omega)]
    · rw [if_neg d, if_neg (by omega)]
theorem pfl_pfl (V : Nat → Int) (p : Nat) (w w' : Nat → Int) (k : Nat) : pfl (pfl V p w k) p w' k = pfl V p w' k := funext fun a => by
  unfold pfl
  split <;> rfl
/-- 1 more than the degree -/
def fdg (f : Nat → Int) : Nat → Nat
  | 0 => 0
  | k + 1 => if f k = 0 then fdg f k else k + 1
theorem fdg_succ (f : Nat → Int) (k : Nat) : fdg f (k + 1) = if f k = 0 then fdg f k else k + 1 := rfl
theorem fdg_le (f : Nat → Int) : ∀ k, fdg f k ≤ k
  | 0 => Nat.le_refl 0
  | k + 1 => by
    have := fdg_le f k
    unfold fdg
    split <;> omega
theorem fdg_zero (f : Nat → Int) : ∀ k i, fdg f k ≤ i → i < k → f i = 0
  | 0, i, _, h => absurd h (by omega)
  | k + 1, i, h1, h2 => by
    unfold fdg at h1
    split at h1
    · rename_i c
      by_cases e : i = k
      · rw [e, c]
      · exact fdg_zero f k i h1 (by omega)
    · omega
theorem fdg_ne (f : Nat → Int) : ∀ k, 1 ≤ fdg f k → f (fdg f k - 1) ≠ 0
  | 0, h => absurd h (by unfold fdg; omega)
  | k + 1, h => by
    unfold fdg at h ⊢
    split
    · rename_i c
      rw [if_pos c] at h
      exact fdg_ne f k h
    · rename_i c
      exact c
theorem fdg_of {f : Nat → Int} {k d : Nat} (hd : d ≤ k) (h1 : ∀ i, d ≤ i → i < k → f i = 0) (h2 : d = 0 ∨ f (d - 1) ≠ 0) : fdg f k = d := by
  have a := fdg_le f k
  rcases Nat.lt_trichotomy (fdg f k) d with c | c | c
  · have := fdg_zero f k (d - 1) (by omega) (by omega)
    rcases h2 with h2 | h2
    · omega
    · exact absurd this h2
  · exact c
  · exact absurd (h1 (fdg f k - 1) (by omega) (by omega)) (fdg_ne f k (by omega))
theorem fdg_congr {f f' : Nat → Int} : ∀ k, (∀ i, i < k → f' i = f i) → fdg f' k = fdg f k
  | 0, _ => rfl
  | k + 1, h => by
    unfold fdg
    rw [h k (by omega), fdg_congr k (fun i hi => h i (by omega))]
/-! The polynomials of the class, exactly. -/
theorem jsg_r (v : Int) : jr (jsg v) := by
  have := jsg_range v
  exact ⟨by omega, by omega⟩
theorem jsg_z0 {v : Int} : jsg v = 0 ↔ v = 0 := by
  unfold jsg
  constructor
  · intro h
    split at h
    · cases h
    · split at h
      · cases h
      · omega
  · intro h
    rw [if_neg (by omega), if_neg (by omega)]
theorem xup_xup (X : Nat → Nat → Int) (a i : Nat) (v w : Int) : xup (xup X a i v) a i w = xup X a i w := funext fun b => funext fun j => by
  unfold xup
  split <;> rfl
theorem jM.to {g h : mj_H} {n : Nat} {V V' : Nat → Int} {X X' : Nat → Nat → Int} (m : jM g n V X h) (e1 : V' = V) (e2 : X' = X) : jM g n V' X' h := by
  subst e1
  subst e2
  exact m
section MPP
variable {g h : mj_H} {n D p : Nat} {V : Nat → Int} {X : Nat → Nat → Int}
theorem mP_at (m : jM g n V X h) (kp : cK p = 13) {e : Nat} (he : e < cL (p + 3)) : mj_Ok (D + 1) 36 [.ref p, .int (jn (e : Int))] h (fun r => r = (.inl (some (.ref (p + 4 + 2 * e))), h)) := by
  have hb := (mK_p kp).2.2.1
  refine mj_Ok.of (M := mj_m36) rfl rfl rfl ?_
  refine mj_T.pl rfl rfl rfl rfl ?_
  refine mj_T.if0 (a := ((e : Nat) : Int)) rfl ⟨by omega, by omega⟩ (fun c1 => ?_) (fun c1 => ?_)
  · exfalso
    simp only [jc, Bool.not_eq_true', Bool.not_eq_false', decide_eq_true_eq, decide_eq_false_iff_not] at c1
    omega
  · simp only [jc, Bool.not_eq_true', Bool.not_eq_false', decide_eq_true_eq, decide_eq_false_iff_not] at c1
    iterate 2 refine mj_T.pl rfl rfl rfl rfl ?_
    refine mT_get m 13 kp (by decide) rfl rfl ?_
    refine mT_alen m 4 (mK_p kp).2.1 (by decide) rfl ?_
    refine mj_T.icmp (a := ((e : Nat) : Int)) (b := ((cL (p + 3) : Nat) : Int)) rfl ⟨by omega, by omega⟩ ⟨by omega, by omega⟩ (fun c2 => ?_) (fun c2 => ?_)
    · exfalso
      simp only [jc, Bool.not_eq_true', Bool.not_eq_false', decide_eq_true_eq, decide_eq_false_iff_not] at c2
      omega
    · simp only [jc, Bool.not_eq_true', Bool.not_eq_false', decide_eq_true_eq, decide_eq_false_iff_not] at c2
      refine mj_T.pl rfl rfl rfl rfl ?_
      refine mT_get m 13 kp (by decide) rfl rfl ?_
      refine mj_T.pl rfl rfl rfl rfl ?_
      refine mT_aald m 4 (mK_p kp).2.1 (by decide) rfl rfl (by omega) ⟨by omega, by omega⟩ ?_
      refine mj_T.eq (st2 := [.ref (p + 4 + 2 * e)]) ?_ rfl rfl rfl rfl
      refine mj_T.pl rfl rfl rfl rfl ?_
      exact mj_T.ret rfl rfl rfl rfl
theorem mP_atB (m : jM g n V X h) (kp : cK p = 13) {e : Int} (jr_e : jr e) (he : e < 0 ∨ (cL (p + 3) : Int) ≤ e) : mj_Ok (D + 1) 36 [.ref p, .int (jn e)] h (fun r => r = (.inl (some (.ref (p + 1))), h)) := by
  have hb := (mK_p kp).2.2.1
  refine mj_Ok.of (M := mj_m36) rfl rfl rfl ?_
  refine mj_T.pl rfl rfl rfl rfl ?_
  refine mj_T.if0 (a := e) rfl jr_e (fun c1 => ?_) (fun c1 => ?_)
  · simp only [jc, Bool.not_eq_true', Bool.not_eq_false', decide_eq_true_eq, decide_eq_false_iff_not] at c1
    refine mj_T.pl rfl rfl rfl rfl ?_
    refine mT_get m 13 kp (by decide) rfl rfl ?_
    exact mj_T.ret rfl rfl rfl rfl
  · simp only [jc, Bool.not_eq_true', Bool.not_eq_false', decide_eq_true_eq, decide_eq_false_iff_not] at c1
    iterate 2 refine mj_T.pl rfl rfl rfl rfl ?_
    refine mT_get m 13 kp (by decide) rfl rfl ?_
    refine mT_alen m 4 (mK_p kp).2.1 (by decide) rfl ?_
    refine mj_T.icmp (a := e) (b := ((cL (p + 3) : Nat) : Int)) rfl jr_e ⟨by omega, by omega⟩ (fun c2 => ?_) (fun c2 => ?_)
    · simp only [jc, Bool.not_eq_true', Bool.not_eq_false', decide_eq_true_eq, decide_eq_false_iff_not] at c2
      refine mj_T.pl rfl rfl rfl rfl ?_
      refine mT_get m 13 kp (by decide) rfl rfl ?_
      exact mj_T.ret rfl rfl rfl rfl
    · exfalso
      simp only [jc, Bool.not_eq_true', Bool.not_eq_false', decide_eq_true_eq, decide_eq_false_iff_not] at c2
      omega
theorem mP_lead (m : jM g n V X h) (kp : cK p = 13) {e : Nat} (hd : X p 2 = (e : Int)) (he : e < cL (p + 3)) : mj_Ok (D + 2) 37 [.ref p] h (fun r => r = (.inl (some (.ref (p + 4 + 2 * e))), h)) := by
  refine mj_Ok.of (M := mj_m37) rfl rfl rfl ?_
  iterate 2 refine mj_T.pl rfl rfl rfl rfl ?_
  refine mT_get (v := .int (jn ((e : Nat) : Int))) m 13 kp (by decide) rfl (congrArg (fun z : Int => some (Value.int (jn z))) (hd)) ?_
  refine mj_T.call rfl rfl (Nat.le_of_ble_eq_true rfl) (Nat.le_of_ble_eq_true rfl) (mV_of m 13 kp (by decide) rfl (by decide) rfl _) rfl (mj_Ok.up (by omega) (mP_at (D := 0) m kp (e := e) (by omega))) (fun v g1 hq => ?_) (fun i g1 hq => ?_)
  rotate_left
  · cases hq
  cases hq
  refine mj_T.eq (pc2 := 8) (st2 := [.ref (p + 4 + 2 * e)]) ?_ rfl rfl rfl rfl
  exact mj_T.ret rfl rfl rfl rfl
theorem mP_highest (m : jM g n V X h) (kp : cK p = 13) : mj_Ok (D + 1) 38 [.ref p] h (fun r => r = (.inl (some (.int (jn ((cL (p + 3) : Int) - 1)))), h)) := by
  refine mj_Ok.of (M := mj_m38) rfl rfl rfl ?_
  refine mj_T.pl rfl rfl rfl rfl ?_
  refine mT_get m 13 kp (by decide) rfl rfl ?_
  refine mT_alen m 4 (mK_p kp).2.1 (by decide) rfl ?_
  refine mj_T.pl rfl rfl rfl rfl ?_
  refine mj_T.isub (a := ((cL (p + 3) : Nat) : Int)) (b := 1) rfl ?_
  exact mj_T.ret rfl rfl rfl rfl
theorem mP_settle_loop (kp : cK p = 13) (hcl : pcl V p) {Q : mj_R → Prop} (hend : ∀ h, jM g n V (xup X p 2 ((fdg (pco V p) (cL (p + 3)) : Int) - 1)) h → Q (.inl none, h)) : ∀ k i, i + k = cL (p + 3) → ∀ h, jM g n V (xup X p 2 ((fdg (pco V p) i : Int) - 1)) h → mj_T D mj_m42 7 [some (.ref p), some (.int (jn (i : Int)))] [] h Q
  | 0, i, hi, h, m => by
    have hb := (mK_p kp).2.2.1
    iterate 2 refine mj_T.pl rfl rfl rfl rfl ?_
    refine mT_get m 13 kp (by decide) rfl rfl ?_
    refine mT_alen m 4 (mK_p kp).2.1 (by decide) rfl ?_
    refine mj_T.icmp (a := ((i : Nat) : Int)) (b := ((cL (p + 3) : Nat) : Int)) rfl ⟨by omega, by omega⟩ ⟨by omega, by omega⟩ (fun c1 => ?_) (fun c1 => ?_)
    · simp only [jc, Bool.not_eq_true', Bool.not_eq_false', decide_eq_true_eq, decide_eq_false_iff_not] at c1
      exact mj_T.ret rfl rfl rfl (hend _ (by rw [show i = cL (p + 3) by omega] at m; exact m))
    · exfalso
      simp only [jc, Bool.not_eq_true', Bool.not_eq_false', decide_eq_true_eq, decide_eq_false_iff_not] at c1
      omega
  | k + 1, i, hi, h, m => by
    have hb := (mK_p kp).2.2.1
    have hdl := fdg_le (pco V p) i
    have hci := hcl i (by omega)
    iterate 2 refine mj_T.pl rfl rfl rfl rfl ?_
    refine mT_get m 13 kp (by decide) rfl rfl ?_
    refine mT_alen m 4 (mK_p kp).2.1 (by decide) rfl ?_
    refine mj_T.icmp (a := ((i : Nat) : Int)) (b := ((cL (p + 3) : Nat) : Int)) rfl ⟨by omega, by omega⟩ ⟨by omega, by omega⟩ (fun c1 => ?_) (fun c1 => ?_)
    · exfalso
      simp only [jc, Bool.not_eq_true', Bool.not_eq_false', decide_eq_true_eq, decide_eq_false_iff_not] at c1
      omega
    · simp only [jc, Bool.not_eq_true', Bool.not_eq_false', decide_eq_true_eq, decide_eq_false_iff_not] at c1
      iterate 2 refine mj_T.pl rfl rfl rfl rfl ?_
      refine mT_get m 13 kp (by decide) rfl rfl ?_
      refine mj_T.pl rfl rfl rfl rfl ?_
      refine mT_aald m 4 (mK_p kp).2.1 (by decide) rfl rfl (by omega) ⟨by omega, by omega⟩ ?_
      refine mj_T.eq (st2 := [.ref (p + 4 + 2 * i), .ref p]) ?_ rfl rfl rfl rfl
      refine mT_sg m ((mK_p kp).2.2.2 _ (by omega)) rfl ?_
      refine mj_T.if0 (a := (jsg (V (p + 4 + 2 * i)))) rfl (jsg_r _) (fun c2 => ?_) (fun c2 => ?_)
      · simp only [jc, Bool.not_eq_true', Bool.not_eq_false', decide_eq_true_eq, decide_eq_false_iff_not] at c2
        refine mj_T.pl rfl rfl rfl rfl ?_
        refine mT_get (v := .int (jn ((fdg (pco V p) i : Int) - 1))) m 13 kp (by decide) rfl (congrArg (fun z : Int => some (Value.int (jn z))) (xup_at X p 2 _)) ?_
        refine mT_put (v := ((fdg (pco V p) i : Int) - 1)) m 13 kp (by decide) rfl (by simp [jMf, xup]) (by simp [jMf]) rfl (fun h3 m4 => ?_)
        refine mj_T.iinc rfl rfl ?_
        rw [show ((i : Nat) : Int) + 1 = ((i + 1 : Nat) : Int) by omega]
        refine mj_T.eq (loc2 := [some (.ref p), some (.int (jn (((i + 1) : Nat) : Int)))]) ?_ rfl rfl rfl rfl
        refine mj_T.pl rfl rfl rfl rfl ?_
        refine mP_settle_loop kp hcl hend k (i + 1) (by omega) _ (m4.to rfl ?_)
        rw [xup_xup]
        congr 1
        show ((fdg (pco V p) (i + 1) : Nat) : Int) - 1 = _
        rw [fdg_succ]
        by_cases z : V (p + 4 + 2 * i) = 0
        · first | (rw [if_pos (show pco V p i = 0 from z)]; done) | (exact absurd (jsg_z0.mpr z) (by assumption))
        · first | (rw [if_neg (show ¬ pco V p i = 0 from z)]; omega) | (exact absurd (jsg_z0.mp (by assumption)) z)
      · simp only [jc, Bool.not_eq_true', Bool.not_eq_false', decide_eq_true_eq, decide_eq_false_iff_not] at c2
        iterate 2 refine mj_T.pl rfl rfl rfl rfl ?_
        refine mT_put (v := ((i : Nat) : Int)) m 13 kp (by decide) rfl (by simp [jMf, xup]) (by simp [jMf]) rfl (fun h5 m6 => ?_)
        refine mj_T.iinc rfl rfl ?_
        rw [show ((i : Nat) : Int) + 1 = ((i + 1 : Nat) : Int) by omega]
        refine mj_T.eq (loc2 := [some (.ref p), some (.int (jn (((i + 1) : Nat) : Int)))]) ?_ rfl rfl rfl rfl
        refine mj_T.pl rfl rfl rfl rfl ?_
        refine mP_settle_loop kp hcl hend k (i + 1) (by omega) _ (m6.to rfl ?_)
        rw [xup_xup]
        congr 1
        show ((fdg (pco V p) (i + 1) : Nat) : Int) - 1 = _
        rw [fdg_succ]
        by_cases z : V (p + 4 + 2 * i) = 0
        · first | (rw [if_pos (show pco V p i = 0 from z)]; done) | (exact absurd (jsg_z0.mpr z) (by assumption))
        · first | (rw [if_neg (show ¬ pco V p i = 0 from z)]; omega) | (exact absurd (jsg_z0.mp (by assumption)) z)
theorem mP_settle (m : jM g n V X h) (kp : cK p = 13) (hcl : pcl V p) : mj_Ok (D + 1) 42 [.ref p] h (fun r => ∃ h2, jM g n V (xup X p 2 ((fdg (pco V p) (cL (p + 3)) : Int) - 1)) h2 ∧ r = (.inl none, h2)) := by
  refine mj_Ok.of (M := mj_m42) rfl rfl rfl ?_
  iterate 2 refine mj_T.pl rfl rfl rfl rfl ?_
  refine mT_put (v := (-1)) m 13 kp (by decide) rfl (by simp [jMf, xup]) (by simp [jMf]) rfl (fun h1 m2 => ?_)
  refine mj_T.pl rfl rfl rfl rfl ?_
  refine mj_T.pl (loc' := [some (.ref p), some (.int (jn 0))]) rfl rfl rfl rfl ?_
  exact mP_settle_loop kp hcl (fun h1 m1 => ⟨h1, m1, rfl⟩) (cL (p + 3)) 0 (by omega) _ (m2.to rfl (by rfl))
end MPP
/-! The polynomials of the class, exactly: clear, set, negate, load, store. -/
theorem jl_divn {a b : Int} (ha : jR a) (h1 : a ≠ -9223372036854775808) (hb : jR b) : jl a / jl b = jl (a.tdiv b) := by
  apply Int64.toInt_inj.mp
  have h2 := Int.natAbs_tdiv_le_natAbs a b
  have := ha.1; have := ha.2
  rw [jl_toInt ⟨by omega, by omega⟩]
  have h3 : jl a ≠ Int64.minValue := by
    rw [show (Int64.minValue) = jl (-9223372036854775808) from by decide, Ne, jl_eq ha ⟨by decide, by decide⟩]
    exact h1
  rw [Int64.toInt_div_of_ne_left _ _ h3, jl_toInt ha, jl_toInt hb]
theorem jsg_ngv (v : Int) : jsg (-v) = -jsg v := by
  unfold jsg
  (repeat' split) <;> omega
theorem jR_0 : jR ((0 : Nat) : Int) := ⟨by decide, by decide⟩
theorem jnl_0 : jnl (((0 : Nat) : Int)).natAbs = 0 := jnl_zero
def pls : List Nat := [20, 50, 80, 110, 180, 210, 240, 268, 294, 318, 340, 360, 378, 394, 408, 420, 430, 438]
theorem pls_1 : ((List.range 563).all (fun a => !(decide (cK a = 13)) || decide (a ∈ pls))) = true := by decide +kernel
theorem pls_2 : (pls.all fun p => pls.all fun q => decide (p = q) || decide (p + 4 + 2 * cL (p + 3) ≤ q) || decide (q + 4 + 2 * cL (q + 3) ≤ p)) = true := by decide +kernel
theorem pls_3 : (pls.all fun p => decide (p + 4 + 2 * cL (p + 3) ≤ 164) || (decide (180 ≤ p) && decide (p + 4 + 2 * cL (p + 3) ≤ 444))) = true := by decide +kernel
theorem mP_far {p q : Nat} (kp : cK p = 13) (kq : cK q = 13) (h : p ≠ q) : p + 4 + 2 * cL (p + 3) ≤ q ∨ q + 4 + 2 * cL (q + 3) ≤ p := by
  have h1 := jall pls_1 (cK_in (a := p) (by omega))
  have h2 := jall pls_1 (cK_in (a := q) (by omega))
  simp only [kp, kq, decide_true, Bool.not_true, Bool.false_or, decide_eq_true_eq] at h1 h2
  have h3 := List.all_eq_true.mp (List.all_eq_true.mp pls_2 p h1) q h2
  simp only [Bool.or_eq_true, decide_eq_true_eq] at h3
  omega
/-- it lies before the desk's numbers or behind them -/
theorem mP_pos {p : Nat} (kp : cK p = 13) : p + 4 + 2 * cL (p + 3) ≤ 164 ∨ (180 ≤ p ∧ p + 4 + 2 * cL (p + 3) ≤ 444) := by
  have h1 := jall pls_1 (cK_in (a := p) (by omega))
  simp only [kp, decide_true, Bool.not_true, Bool.false_or, decide_eq_true_eq] at h1
  have h3 := List.all_eq_true.mp pls_3 p h1
  simp only [Bool.or_eq_true, Bool.and_eq_true, decide_eq_true_eq] at h3
  omega
section MPQ
variable {g h : mj_H} {n D p : Nat} {V : Nat → Int} {X : Nat → Nat → Int}
theorem mW_low_loop {a : Nat} {q : Nat → Int32} (ka : cK a = 18) (h1 : h[a]? = some (.inr (8, [.ref (a + 1), .int (jn (jnl (V a).natAbs : Nat)), .int (jn (jsg (V a)))]))) (h2 : h[a + 1]? = some (.inl (0, cL (a + 1), fun j => .int (q j)))) (h3 : ∀ j, j < jnl (V a).natAbs → q j = jn (jlb (V a).natAbs j : Nat)) {Q : mj_R → Prop} : ∀ k, k ≤ jnl (V a).natAbs → (k ≤ cL (a + 1)) → mj_T D mj_m100 42 [some (.ref a), some (.long (jl (((V a).natAbs : Nat) : Int))), none, some (.int (jn (-1)))] [] h Q → mj_T D mj_m100 9 [some (.ref a), some (.long (jl (((V a).natAbs / jB ^ k : Nat) : Int))), none, some (.int (jn ((k : Int) - 1)))] [] h Q
  | 0, hk, hl, hend => by
    refine mj_T.pl rfl rfl rfl rfl ?_
    refine mj_T.if0 (a := (((0 : Nat) : Int) - 1)) rfl ⟨by omega, by omega⟩ (fun c1 => ?_) (fun c1 => ?_)
    · simp only [jc, Bool.not_eq_true', Bool.not_eq_false', decide_eq_true_eq, decide_eq_false_iff_not] at c1
      exact (by rw [show (V a).natAbs / jB ^ 0 = (V a).natAbs by simp]; exact hend : mj_T D mj_m100 42 [some (.ref a), some (.long (jl (((V a).natAbs / jB ^ 0 : Nat) : Int))), none, some (.int (jn (((0 : Nat) : Int) - 1)))] [] h Q)
    · exfalso
      simp only [jc, Bool.not_eq_true', Bool.not_eq_false', decide_eq_true_eq, decide_eq_false_iff_not] at c1
      omega
  | k + 1, hk, hl, hend => by
    have hw := (mK_w (Or.inl ka)).2.1
    have hlb := jlb_lt (V a).natAbs k
    rw [show ((k + 1 : Nat) : Int) - 1 = (k : Int) by omega]
    refine mj_T.pl rfl rfl rfl rfl ?_
    refine mj_T.if0 (a := ((k : Nat) : Int)) rfl ⟨by omega, by omega⟩ (fun c1 => ?_) (fun c1 => ?_)
    · exfalso
      simp only [jc, Bool.not_eq_true', Bool.not_eq_false', decide_eq_true_eq, decide_eq_false_iff_not] at c1
      omega
    · simp only [jc, Bool.not_eq_true', Bool.not_eq_false', decide_eq_true_eq, decide_eq_false_iff_not] at c1
      iterate 2 refine mj_T.pl rfl rfl rfl rfl ?_
      refine mj_T.gfl rfl h1 rfl ?_
      refine mj_T.alen rfl h2 ?_
      refine mj_T.icmp (a := ((k : Nat) : Int)) (b := ((cL (a + 1) : Nat) : Int)) rfl ⟨by omega, by omega⟩ ⟨by omega, by omega⟩ (fun c2 => ?_) (fun c2 => ?_)
      · exfalso
        simp only [jc, Bool.not_eq_true', Bool.not_eq_false', decide_eq_true_eq, decide_eq_false_iff_not] at c2
        omega
      · simp only [jc, Bool.not_eq_true', Bool.not_eq_false', decide_eq_true_eq, decide_eq_false_iff_not] at c2
        refine mj_T.pl rfl rfl rfl rfl ?_
        refine jT.ldcL rfl ?_
        refine mj_T.lmul (a := (((V a).natAbs / jB ^ (k + 1) : Nat) : Int)) (b := ((1000000000 : Nat) : Int)) rfl ?_
        refine mj_T.pl rfl rfl rfl rfl ?_
        refine mj_T.gfl rfl h1 rfl ?_
        refine mj_T.pl rfl rfl rfl rfl ?_
        refine mj_T.ialv rfl h2 ⟨by omega, by omega⟩ ⟨by omega, by omega⟩ (h3 _ (by omega)) ?_
        refine mj_T.eq (st2 := [.int (jn ((jlb (V a).natAbs k : Nat) : Int)), .long (jl ((((V a).natAbs / jB ^ (k + 1) : Nat) : Int) * ((1000000000 : Nat) : Int)))]) ?_ rfl rfl rfl rfl
        refine mj_T.i2l rfl ⟨by omega, by omega⟩ ?_
        refine mj_T.ladd (a := ((((V a).natAbs / jB ^ (k + 1) : Nat) : Int) * ((1000000000 : Nat) : Int))) (b := ((jlb (V a).natAbs k : Nat) : Int)) rfl ?_
        refine mj_T.pl (loc' := [some (.ref a), some (.long (jl (((((V a).natAbs / jB ^ (k + 1) : Nat) : Int) * ((1000000000 : Nat) : Int)) + ((jlb (V a).natAbs k : Nat) : Int)))), none, some (.int (jn ((k : Nat) : Int)))]) rfl rfl rfl rfl ?_
        refine mj_T.iinc rfl rfl ?_
        refine mj_T.eq (loc2 := [some (.ref a), some (.long (jl (((((V a).natAbs / jB ^ (k + 1) : Nat) : Int) * ((1000000000 : Nat) : Int)) + ((jlb (V a).natAbs k : Nat) : Int)))), none, some (.int (jn (((k : Nat) : Int) + (-1))))]) ?_ rfl rfl rfl rfl
        refine mj_T.pl rfl rfl rfl rfl ?_
        refine mj_T.eq (mW_low_loop ka h1 h2 h3 k (by omega) (by omega) hend) rfl ?_ rfl rfl
        rw [show (((V a).natAbs / jB ^ (k + 1) : Nat) : Int) * ((1000000000 : Nat) : Int) + ((jlb (V a).natAbs k : Nat) : Int) = (((V a).natAbs / jB ^ k : Nat) : Int) by rw [jdiv (V a).natAbs k]; rfl, show (((k : Nat) : Int) + (-1)) = (k : Int) - 1 by omega]
theorem jsg_s (v : Int) : (jsg v < 0 → v < 0) ∧ (0 ≤ jsg v → 0 ≤ v) := by
  unfold jsg
  (repeat' split) <;> omega
theorem mW_low (m : jM g n V X h) {a : Nat} (ka : cK a = 18) (hcl : jnl (V a).natAbs ≤ 1500 := by omega) : mj_Ok (D + 1) 100 [.ref a] h (fun r => r = (.inl (some (.long (jl (V a)))), h)) := by
  obtain ⟨q, h1, h2, h3, h4⟩ := m.W ka
  have hw := (mK_w (Or.inl ka)).2.1
  refine mj_Ok.of (M := mj_m100) rfl rfl rfl ?_
  refine jT.lc 0 rfl rfl ?_
  refine mj_T.pl (loc' := [some (.ref a), some (.long (jl ((0 : Nat) : Int))), none, none]) rfl rfl rfl rfl ?_
  refine mj_T.pl rfl rfl rfl rfl ?_
  refine mT_sz m ka rfl ?_
  refine mj_T.pl rfl rfl rfl rfl ?_
  refine mj_T.isub (a := ((jnl (V a).natAbs : Nat) : Int)) (b := 1) rfl ?_
  refine mj_T.pl (loc' := [some (.ref a), some (.long (jl ((0 : Nat) : Int))), none, some (.int (jn (((jnl (V a).natAbs : Nat) : Int) - 1)))]) rfl rfl rfl rfl ?_
  refine mj_T.eq (pc2 := 9) (loc2 := [some (.ref a), some (.long (jl (((V a).natAbs / jB ^ (jnl (V a).natAbs) : Nat) : Int))), none, some (.int (jn ((jnl (V a).natAbs : Int) - 1)))]) ?_ rfl (by rw [jnl_le.mp (Nat.le_refl _)]) rfl rfl
  refine mW_low_loop ka h1 h2 h3 _ (Nat.le_refl _) h4 ?_
  refine mj_T.pl rfl rfl rfl rfl ?_
  refine mT_sg m ka rfl ?_
  refine mj_T.if0 (a := (jsg (V a))) rfl (jsg_r _) (fun c51 => ?_) (fun c51 => ?_)
  · simp only [jc, Bool.not_eq_true', Bool.not_eq_false', decide_eq_true_eq, decide_eq_false_iff_not] at c51
    have := jsg_s (V a)
    refine mj_T.pl rfl rfl rfl rfl ?_
    exact mj_T.ret rfl rfl rfl (show _ = _ by rw [show (((V a).natAbs : Nat) : Int) = V a by omega])
  · simp only [jc, Bool.not_eq_true', Bool.not_eq_false', decide_eq_true_eq, decide_eq_false_iff_not] at c51
    have := jsg_s (V a)
    refine mj_T.pl rfl rfl rfl rfl ?_
    refine mj_T.lneg rfl ?_
    refine mj_T.pl rfl rfl rfl rfl ?_
    exact mj_T.ret rfl rfl rfl (show _ = _ by rw [show (-(((V a).natAbs : Nat) : Int)) = V a by omega])
theorem mP_clear_loop (kp : cK p = 13) {Q : mj_R → Prop} (hend : ∀ h, jM g n (pfl V p (fun _ => 0) (cL (p + 3))) (xup X p 2 (-1)) h → Q (.inl none, h)) : ∀ k i, i + k = cL (p + 3) → ∀ h, jM g n (pfl V p (fun _ => 0) i) X h → mj_T (D + 1) mj_m39 2 [some (.ref p), some (.int (jn (i : Int)))] [] h Q
  | 0, i, hi, h, m => by
    have hb := (mK_p kp).2.2.1
    iterate 2 refine mj_T.pl rfl rfl rfl rfl ?_
    refine mT_get m 13 kp (by decide) rfl rfl ?_
    refine mT_alen m 4 (mK_p kp).2.1 (by decide) rfl ?_
    refine mj_T.icmp (a := ((i : Nat) : Int)) (b := ((cL (p + 3) : Nat) : Int)) rfl ⟨by omega, by omega⟩ ⟨by omega, by omega⟩ (fun c1 => ?_) (fun c1 => ?_)
    · simp only [jc, Bool.not_eq_true', Bool.not_eq_false', decide_eq_true_eq, decide_eq_false_iff_not] at c1
      iterate 2 refine mj_T.pl rfl rfl rfl rfl ?_
      refine mT_put (v := (-1)) m 13 kp (by decide) rfl (by simp [jMf, xup]) (by simp [jMf]) rfl (fun h2 m3 => ?_)
      exact mj_T.ret rfl rfl rfl (hend _ (m3.to (by rw [show i = cL (p + 3) by omega]) rfl))
    · exfalso
      simp only [jc, Bool.not_eq_true', Bool.not_eq_false', decide_eq_true_eq, decide_eq_false_iff_not] at c1
      omega
  | k + 1, i, hi, h, m => by
    have hb := (mK_p kp).2.2.1
    iterate 2 refine mj_T.pl rfl rfl rfl rfl ?_
    refine mT_get m 13 kp (by decide) rfl rfl ?_
    refine mT_alen m 4 (mK_p kp).2.1 (by decide) rfl ?_
    refine mj_T.icmp (a := ((i : Nat) : Int)) (b := ((cL (p + 3) : Nat) : Int)) rfl ⟨by omega, by omega⟩ ⟨by omega, by omega⟩ (fun c1 => ?_) (fun c1 => ?_)
    · exfalso
      simp only [jc, Bool.not_eq_true', Bool.not_eq_false', decide_eq_true_eq, decide_eq_false_iff_not] at c1
      omega
    · simp only [jc, Bool.not_eq_true', Bool.not_eq_false', decide_eq_true_eq, decide_eq_false_iff_not] at c1
      refine mj_T.pl rfl rfl rfl rfl ?_
      refine mT_get m 13 kp (by decide) rfl rfl ?_
      refine mj_T.pl rfl rfl rfl rfl ?_
      refine mT_aald m 4 (mK_p kp).2.1 (by decide) rfl rfl (by omega) ⟨by omega, by omega⟩ ?_
      refine mj_T.eq (st2 := [.ref (p + 4 + 2 * i)]) ?_ rfl rfl rfl rfl
      refine jT.lc 0 rfl rfl ?_
      refine mj_T.call rfl rfl (Nat.le_of_ble_eq_true rfl) (Nat.le_of_ble_eq_true rfl) (mV_of m 18 ((mK_p kp).2.2.2 _ (by omega)) (by decide) rfl (by decide) rfl _) rfl (mj_Ok.up (by omega) (mW_setLong (D := 0) (v := ((0 : Nat) : Int)) m ((mK_p kp).2.2.2 _ (by omega)) jR_0 (by rw [jnl_0]; omega))) (fun v g2 hq => ?_) (fun i g2 hq => ?_)
      rotate_left
      · obtain ⟨_, _, hq⟩ := hq; cases hq
      obtain ⟨_, m3, hq⟩ := hq
      cases hq
      refine mj_T.eq (pc2 := 21) (st2 := []) ?_ rfl rfl rfl rfl
      refine mj_T.iinc rfl rfl ?_
      rw [show ((i : Nat) : Int) + 1 = ((i + 1 : Nat) : Int) by omega]
      refine mj_T.eq (loc2 := [some (.ref p), some (.int (jn (((i + 1) : Nat) : Int)))]) ?_ rfl rfl rfl rfl
      refine mj_T.pl rfl rfl rfl rfl ?_
      exact mP_clear_loop kp hend k (i + 1) (by omega) _ (m3.to (pfl_succ V p _ i) rfl)
theorem mP_clear (m : jM g n V X h) (kp : cK p = 13) : mj_Ok (D + 2) 39 [.ref p] h (fun r => ∃ h2, jM g n (pfl V p (fun _ => 0) (cL (p + 3))) (xup X p 2 (-1)) h2 ∧ r = (.inl none, h2)) := by
  refine mj_Ok.of (M := mj_m39) rfl rfl rfl ?_
  refine mj_T.pl rfl rfl rfl rfl ?_
  refine mj_T.pl (loc' := [some (.ref p), some (.int (jn 0))]) rfl rfl rfl rfl ?_
  exact mP_clear_loop kp (fun h1 m1 => ⟨h1, m1, rfl⟩) (cL (p + 3)) 0 (by omega) _ (m.to (pfl_zero _ _ _) rfl)
/-- the coefficients of o, 0 behind them -/
noncomputable def pcs (V : Nat → Int) (o : Nat) : Nat → Int := fun i => if i < cL (o + 3) then V (o + 4 + 2 * i) else 0
theorem mP_set_loop {o : Nat} (kp : cK p = 13) (ko : cK o = 13) (hpo : p ≠ o) (h0 : V (o + 1) = 0) (hcap : ∀ i, i < cL (p + 3) → jnl (pcs V o i).natAbs ≤ cL (p + 4 + 2 * i + 1)) {Q : mj_R → Prop} (hend : ∀ h, jM g n (pfl V p (pcs V o) (cL (p + 3))) X h → mj_T (D + 1) mj_m41 31 [some (.ref p), some (.ref o), some (.int (jn (cL (p + 3) : Int)))] [] h Q) : ∀ k i, i + k = cL (p + 3) → ∀ h, jM g n (pfl V p (pcs V o) i) X h → mj_T (D + 1) mj_m41 2 [some (.ref p), some (.ref o), some (.int (jn (i : Int)))] [] h Q
  | 0, i, hi, h, m => by
    have hb := (mK_p kp).2.2.1
    iterate 2 refine mj_T.pl rfl rfl rfl rfl ?_
    refine mT_get m 13 kp (by decide) rfl rfl ?_
    refine mT_alen m 4 (mK_p kp).2.1 (by decide) rfl ?_
    refine mj_T.icmp (a := ((i : Nat) : Int)) (b := ((cL (p + 3) : Nat) : Int)) rfl ⟨by omega, by omega⟩ ⟨by omega, by omega⟩ (fun c1 => ?_) (fun c1 => ?_)
    · simp only [jc, Bool.not_eq_true', Bool.not_eq_false', decide_eq_true_eq, decide_eq_false_iff_not] at c1
      rw [show i = cL (p + 3) by omega] at m ⊢
      exact hend _ m
    · exfalso
      simp only [jc, Bool.not_eq_true', Bool.not_eq_false', decide_eq_true_eq, decide_eq_false_iff_not] at c1
      omega
  | k + 1, i, hi, h, m => by
    have hb := (mK_p kp).2.2.1
    have hbo := (mK_p ko).2.2.1
    have hf := mP_far kp ko hpo
    have kx : cK (if i < cL (o + 3) then o + 4 + 2 * i else o + 1) = 18 := by
      split
      · exact (mK_p ko).2.2.2 _ (by omega)
      · exact (mK_p ko).1
    have hx : (if i < cL (o + 3) then o + 4 + 2 * i else o + 1) ≠ p + 4 + 2 * i := by
      split <;> omega
    have hv : pfl V p (pcs V o) i (if i < cL (o + 3) then o + 4 + 2 * i else o + 1) = pcs V o i := by
      rw [pfl_off _ _ _ (by split <;> omega)]
      unfold pcs
      split
      · rfl
      · exact h0
    have hat : ∀ {h1 : mj_H} {V1 : Nat → Int}, jM g n V1 X h1 → mj_Ok 1 36 [.ref o, .int (jn (i : Int))] h1 (fun r => r = (.inl (some (.ref (if i < cL (o + 3) then o + 4 + 2 * i else o + 1))), h1)) := fun m1 => by
      split
      · exact mP_at (D := 0) m1 ko (by omega)
      · exact mP_atB (D := 0) m1 ko ⟨by omega, by omega⟩ (Or.inr (by omega))
    iterate 2 refine mj_T.pl rfl rfl rfl rfl ?_
    refine mT_get m 13 kp (by decide) rfl rfl ?_
    refine mT_alen m 4 (mK_p kp).2.1 (by decide) rfl ?_
    refine mj_T.icmp (a := ((i : Nat) : Int)) (b := ((cL (p + 3) : Nat) : Int)) rfl ⟨by omega, by omega⟩ ⟨by omega, by omega⟩ (fun c1 => ?_) (fun c1 => ?_)
    · exfalso
      simp only [jc, Bool.not_eq_true', Bool.not_eq_false', decide_eq_true_eq, decide_eq_false_iff_not] at c1
      omega
    · simp only [jc, Bool.not_eq_true', Bool.not_eq_false', decide_eq_true_eq, decide_eq_false_iff_not] at c1
      refine mj_T.pl rfl rfl rfl rfl ?_
      refine mT_get m 13 kp (by decide) rfl rfl ?_
      refine mj_T.pl rfl rfl rfl rfl ?_
      refine mT_aald m 4 (mK_p kp).2.1 (by decide) rfl rfl (by omega) ⟨by omega, by omega⟩ ?_
      refine mj_T.eq (st2 := [.ref (p + 4 + 2 * i)]) ?_ rfl rfl rfl rfl
      iterate 2 refine mj_T.pl rfl rfl rfl rfl ?_
      refine mj_T.call rfl rfl (Nat.le_of_ble_eq_true rfl) (Nat.le_of_ble_eq_true rfl) (mV_of m 13 ko (by decide) rfl (by decide) rfl _) rfl (mj_Ok.up (by omega) (hat m)) (fun v g2 hq => ?_) (fun i g2 hq => ?_)
      rotate_left
      · cases hq
      cases hq
      refine mj_T.eq (pc2 := 22) (st2 := [.ref (if i < cL (o + 3) then o + 4 + 2 * i else o + 1), .ref (p + 4 + 2 * i)]) ?_ rfl rfl rfl rfl
      refine mj_T.call rfl rfl (Nat.le_of_ble_eq_true rfl) (Nat.le_of_ble_eq_true rfl) (mV_of m 18 ((mK_p kp).2.2.2 _ (by omega)) (by decide) rfl (by decide) rfl _) rfl (mj_Ok.up (by omega) (mW_set (D := 0) m ((mK_p kp).2.2.2 _ (by omega)) kx hx (by rw [hv]; exact hcap i (by omega)))) (fun v g3 hq => ?_) (fun i g3 hq => ?_)
      rotate_left
      · obtain ⟨_, _, hq⟩ := hq; cases hq
      obtain ⟨_, m4, hq⟩ := hq
      cases hq
      refine mj_T.eq (pc2 := 25) (st2 := []) ?_ rfl rfl rfl rfl
      refine mj_T.iinc rfl rfl ?_
      rw [show ((i : Nat) : Int) + 1 = ((i + 1 : Nat) : Int) by omega]
      refine mj_T.eq (loc2 := [some (.ref p), some (.ref o), some (.int (jn (((i + 1) : Nat) : Int)))]) ?_ rfl rfl rfl rfl
      refine mj_T.pl rfl rfl rfl rfl ?_
      refine mP_set_loop kp ko hpo h0 hcap hend k (i + 1) (by omega) _ (m4.to ?_ rfl)
      rw [hv]
      exact pfl_succ V p _ i
theorem pco_pfl {V : Nat → Int} {p : Nat} {w : Nat → Int} {k : Nat} : ∀ i, i < k → pco (pfl V p w k) p i = w i := fun i hi => pfl_at V p w hi
theorem pcl_pfl {V : Nat → Int} {p : Nat} {w : Nat → Int} {k : Nat} (hk : cL (p + 3) ≤ k) (hw : ∀ i, i < k → jnl (w i).natAbs ≤ 1500) : pcl (pfl V p w k) p := fun i hi => by
  rw [pfl_at V p w (by omega)]
  exact hw i (by omega)
theorem mP_set (m : jM g n V X h) {o : Nat} (kp : cK p = 13) (ko : cK o = 13) (hpo : p ≠ o) (h0 : V (o + 1) = 0) (hcap : ∀ i, i < cL (p + 3) → jnl (pcs V o i).natAbs ≤ cL (p + 4 + 2 * i + 1)) : mj_Ok (D + 2) 41 [.ref p, .ref o] h (fun r => ∃ h2, jM g n (pfl V p (pcs V o) (cL (p + 3))) (xup X p 2 ((fdg (pcs V o) (cL (p + 3)) : Int) - 1)) h2 ∧ r = (.inl none, h2)) := by
  refine mj_Ok.of (M := mj_m41) rfl rfl rfl ?_
  refine mj_T.pl rfl rfl rfl rfl ?_
  refine mj_T.pl (loc' := [some (.ref p), some (.ref o), some (.int (jn 0))]) rfl rfl rfl rfl ?_
  refine mP_set_loop kp ko hpo h0 hcap (fun h1 m1 => ?_) (cL (p + 3)) 0 (by omega) _ (m.to (pfl_zero _ _ _) rfl)
  refine mj_T.pl rfl rfl rfl rfl ?_
  refine mj_T.call rfl rfl (Nat.le_of_ble_eq_true rfl) (Nat.le_of_ble_eq_true rfl) (mV_of m1 13 kp (by decide) rfl (by decide) rfl _) rfl (mj_Ok.up (by omega) (mP_settle (D := 0) m1 kp (pcl_pfl (Nat.le_refl _) (fun i hi => by have q1 := hcap i hi; have q2 := mK_w (Or.inl ((mK_p kp).2.2.2 i hi)); omega)))) (fun v g61 hq => ?_) (fun i g61 hq => ?_)
  rotate_left
  · obtain ⟨_, _, hq⟩ := hq; cases hq
  obtain ⟨_, m62, hq⟩ := hq
  cases hq
  refine mj_T.eq (pc2 := 35) (st2 := []) ?_ rfl rfl rfl rfl
  exact mj_T.ret rfl rfl rfl ⟨_, m62.to rfl (by rw [fdg_congr _ (fun i hi => pco_pfl i hi)]), rfl⟩
theorem mP_negate_loop (kp : cK p = 13) (hcl : pcl V p) {Q : mj_R → Prop} (hend : ∀ h, jM g n (pfl V p (fun e => -V (p + 4 + 2 * e)) (cL (p + 3))) X h → Q (.inl none, h)) : ∀ k i, i + k = cL (p + 3) → ∀ h, jM g n (pfl V p (fun e => -V (p + 4 + 2 * e)) i) X h → mj_T D mj_m43 2 [some (.ref p), some (.int (jn (i : Int)))] [] h Q
  | 0, i, hi, h, m => by
    have hb := (mK_p kp).2.2.1
    iterate 2 refine mj_T.pl rfl rfl rfl rfl ?_
    refine mT_get m 13 kp (by decide) rfl rfl ?_
    refine mT_alen m 4 (mK_p kp).2.1 (by decide) rfl ?_
    refine mj_T.icmp (a := ((i : Nat) : Int)) (b := ((cL (p + 3) : Nat) : Int)) rfl ⟨by omega, by omega⟩ ⟨by omega, by omega⟩ (fun c1 => ?_) (fun c1 => ?_)
    · simp only [jc, Bool.not_eq_true', Bool.not_eq_false', decide_eq_true_eq, decide_eq_false_iff_not] at c1
      exact mj_T.ret rfl rfl rfl (hend _ (m.to (by rw [show i = cL (p + 3) by omega]) rfl))
    · exfalso
      simp only [jc, Bool.not_eq_true', Bool.not_eq_false', decide_eq_true_eq, decide_eq_false_iff_not] at c1
      omega
  | k + 1, i, hi, h, m => by
    have hb := (mK_p kp).2.2.1
    iterate 2 refine mj_T.pl rfl rfl rfl rfl ?_
    refine mT_get m 13 kp (by decide) rfl rfl ?_
    refine mT_alen m 4 (mK_p kp).2.1 (by decide) rfl ?_
    refine mj_T.icmp (a := ((i : Nat) : Int)) (b := ((cL (p + 3) : Nat) : Int)) rfl ⟨by omega, by omega⟩ ⟨by omega, by omega⟩ (fun c1 => ?_) (fun c1 => ?_)
    · exfalso
      simp only [jc, Bool.not_eq_true', Bool.not_eq_false', decide_eq_true_eq, decide_eq_false_iff_not] at c1
      omega
    · simp only [jc, Bool.not_eq_true', Bool.not_eq_false', decide_eq_true_eq, decide_eq_false_iff_not] at c1
      refine mj_T.pl rfl rfl rfl rfl ?_
      refine mT_get m 13 kp (by decide) rfl rfl ?_
      refine mj_T.pl rfl rfl rfl rfl ?_
      refine mT_aald m 4 (mK_p kp).2.1 (by decide) rfl rfl (by omega) ⟨by omega, by omega⟩ ?_
      refine mj_T.eq (st2 := [.ref (p + 4 + 2 * i)]) ?_ rfl rfl rfl rfl
      refine mj_T.pl rfl rfl rfl rfl ?_
      refine mT_get m 13 kp (by decide) rfl rfl ?_
      refine mj_T.pl rfl rfl rfl rfl ?_
      refine mT_aald m 4 (mK_p kp).2.1 (by decide) rfl rfl (by omega) ⟨by omega, by omega⟩ ?_
      refine mj_T.eq (st2 := [.ref (p + 4 + 2 * i), .ref (p + 4 + 2 * i)]) ?_ rfl rfl rfl rfl
      refine mT_sg m ((mK_p kp).2.2.2 _ (by omega)) rfl ?_ (hcl := by rw [pfl_off _ _ _ (Or.inr (Nat.le_refl _))]; exact hcl i (by omega))
      refine mj_T.ineg rfl ?_
      refine mT_psg (w := -((pfl V p (fun e => -V (p + 4 + 2 * e)) i) (p + 4 + 2 * i))) m ((mK_p kp).2.2.2 _ (by omega)) (Int.natAbs_neg _) (jsg_ngv _) rfl (fun h2 m3 => ?_) (hcl := by rw [pfl_off _ _ _ (Or.inr (Nat.le_refl _))]; exact hcl i (by omega))
      refine mj_T.iinc rfl rfl ?_
      rw [show ((i : Nat) : Int) + 1 = ((i + 1 : Nat) : Int) by omega]
      refine mj_T.eq (loc2 := [some (.ref p), some (.int (jn (((i + 1) : Nat) : Int)))]) ?_ rfl rfl rfl rfl
      refine mj_T.pl rfl rfl rfl rfl ?_
      refine mP_negate_loop kp hcl hend k (i + 1) (by omega) _ (m3.to ?_ rfl)
      rw [pfl_succ, pfl_off _ _ _ (Or.inr (Nat.le_refl _))]
theorem mP_negate (m : jM g n V X h) (kp : cK p = 13) (hcl : pcl V p) : mj_Ok (D + 1) 43 [.ref p] h (fun r => ∃ h2, jM g n (pfl V p (fun e => -V (p + 4 + 2 * e)) (cL (p + 3))) X h2 ∧ r = (.inl none, h2)) := by
  refine mj_Ok.of (M := mj_m43) rfl rfl rfl ?_
  refine mj_T.pl rfl rfl rfl rfl ?_
  refine mj_T.pl (loc' := [some (.ref p), some (.int (jn 0))]) rfl rfl rfl rfl ?_
  exact mP_negate_loop kp hcl (fun h1 m1 => ⟨h1, m1, rfl⟩) (cL (p + 3)) 0 (by omega) _ (m.to (pfl_zero _ _ _) rfl)
end MPQ
/-! The polynomials of the class, exactly: load, store. -/
def xfl (X : Nat → Nat → Int) (r : Nat) (w : Nat → Int) (k : Nat) : Nat → Nat → Int := fun a j => if a = r ∧ j < k then w j else X a j
theorem xfl_zero (X : Nat → Nat → Int) (r : Nat) (w : Nat → Int) : xfl X r w 0 = X := funext fun a => funext fun j => if_neg (by omega)
theorem xfl_succ (X : Nat → Nat → Int) (r : Nat) (w : Nat → Int) (k : Nat) : xfl X r w (k + 1) = xup (xfl X r w k) r k (w k) := funext fun a => funext fun j => by
  simp only [xfl, xup]
  by_cases c : a = r ∧ j = k
  · rw [if_pos (by omega), if_pos c, c.2]
  · rw [if_neg c]
    by_cases d : a = r ∧ j < k
    · rw [if_pos d, if_pos (by omega)]
    · rw [if_neg d, if_neg (by omega)]
theorem xfl_at (X : Nat → Nat → Int) (r : Nat) (w : Nat → Int) {k j : Nat} (h : j < k) : xfl X r w k r j = w j := if_pos ⟨rfl, h⟩
theorem xfl_off (X : Nat → Nat → Int) (r : Nat) (w : Nat → Int) {k a : Nat} (h : a ≠ r) : xfl X r w k a = X a := funext fun j => if_neg (fun q => h q.1)
theorem jnl_two {v : Int} : jnl v.natAbs ≤ 2 ↔ v.natAbs ≤ 999999999999999999 := by
  rw [jnl_le_lt, show jB ^ 2 = 1000000000000000000 from rfl]
  omega
section MTL
variable {h : mj_H} {D pc r1 r2 r3 r4 r5 : Nat} {M : mj_M} {loc : mj_L} {st : List Value} {Q : mj_R → Prop}
theorem mT_ldiv {a b : Int} (hc : M.2.2.2.2.1 pc = some (.ldiv, r1, r2, r3, r4, r5)) (ha : jR a) (h1 : a ≠ -9223372036854775808) (hb : jR b) (h0 : b ≠ 0) (k : mj_T D M (pc + 1) loc (.long (jl (a.tdiv b)) :: st) h Q) : mj_T D M pc loc (.long (jl b) :: .long (jl a) :: st) h Q := mj_T.step hc rfl (by
  simp only [mj_step, jl_divn ha h1 hb]
  rw [if_neg (jl_ne0' hb h0)]) k
end MTL
section MPR
variable {g h : mj_H} {n D p r : Nat} {V : Nat → Int} {X : Nat → Nat → Int}
theorem mP_load_loop {d : Int} (kp : cK p = 13) (kr : cK r = 2) (hm : cL (p + 3) = 13) (hd : jR d) (hX : ∀ i, i < 13 → (X r i).natAbs ≤ 999999999999999999) (hcap : ∀ i, i < 13 → 2 ≤ cL (p + 4 + 2 * i + 1)) {Q : mj_R → Prop} (hend : ∀ h, jM g n (pfl V p (fun e => (X r e).tdiv d) 13) X h → mj_T (D + 1) mj_m40 52 [some (.ref p), some (.ref r), some (.long (jl d)), none, some (.int (jn ((13 : Nat) : Int)))] [] h Q) : ∀ k i, i + k = 13 → ∀ h, jM g n (pfl V p (fun e => (X r e).tdiv d) i) X h → mj_T (D + 1) mj_m40 3 [some (.ref p), some (.ref r), some (.long (jl d)), none, some (.int (jn (i : Int)))] [] h Q
  | 0, i, hi, h, m => by
    have hb := (mK_p kp).2.2.1
    iterate 2 refine mj_T.pl rfl rfl rfl rfl ?_
    refine mT_get m 13 kp (by decide) rfl rfl ?_
    refine mT_alen m 4 (mK_p kp).2.1 (by decide) rfl ?_
    refine mj_T.icmp (a := ((i : Nat) : Int)) (b := ((cL (p + 3) : Nat) : Int)) rfl ⟨by omega, by omega⟩ ⟨by omega, by omega⟩ (fun c1 => ?_) (fun c1 => ?_)
    · simp only [jc, Bool.not_eq_true', Bool.not_eq_false', decide_eq_true_eq, decide_eq_false_iff_not] at c1
      rw [show i = 13 by omega] at m ⊢
      exact hend _ m
    · exfalso
      simp only [jc, Bool.not_eq_true', Bool.not_eq_false', decide_eq_true_eq, decide_eq_false_iff_not] at c1
      omega
  | k + 1, i, hi, h, m => by
    have hb := (mK_p kp).2.2.1
    have hx := hX i (by omega)
    have hxr : jR (X r i) := ⟨by omega, by omega⟩
    have hxn : X r i ≠ -9223372036854775808 := by omega
    have hq := Int.natAbs_tdiv_le_natAbs (X r i) d
    have hj : jR ((X r i).tdiv d) := ⟨by omega, by omega⟩
    have hjn : jnl ((X r i).tdiv d).natAbs ≤ cL (p + 4 + 2 * i + 1) := Nat.le_trans (jnl_two.mpr (by omega)) (hcap i (by omega))
    iterate 2 refine mj_T.pl rfl rfl rfl rfl ?_
    refine mT_get m 13 kp (by decide) rfl rfl ?_
    refine mT_alen m 4 (mK_p kp).2.1 (by decide) rfl ?_
    refine mj_T.icmp (a := ((i : Nat) : Int)) (b := ((cL (p + 3) : Nat) : Int)) rfl ⟨by omega, by omega⟩ ⟨by omega, by omega⟩ (fun c1 => ?_) (fun c1 => ?_)
    · exfalso
      simp only [jc, Bool.not_eq_true', Bool.not_eq_false', decide_eq_true_eq, decide_eq_false_iff_not] at c1
      omega
    · simp only [jc, Bool.not_eq_true', Bool.not_eq_false', decide_eq_true_eq, decide_eq_false_iff_not] at c1
      refine mj_T.pl rfl rfl rfl rfl ?_
      refine mT_get m 13 kp (by decide) rfl rfl ?_
      refine mj_T.pl rfl rfl rfl rfl ?_
      refine mT_aald m 4 (mK_p kp).2.1 (by decide) rfl rfl (by omega) ⟨by omega, by omega⟩ ?_
      refine mj_T.eq (st2 := [.ref (p + 4 + 2 * i)]) ?_ rfl rfl rfl rfl
      iterate 2 refine mj_T.pl rfl rfl rfl rfl ?_
      refine mT_llen m kr rfl ?_
      refine mj_T.icmp (a := ((i : Nat) : Int)) (b := ((13 : Nat) : Int)) rfl ⟨by omega, by omega⟩ ⟨by omega, by omega⟩ (fun c2 => ?_) (fun c2 => ?_)
      · exfalso
        simp only [jc, Bool.not_eq_true', Bool.not_eq_false', decide_eq_true_eq, decide_eq_false_iff_not] at c2
        omega
      · simp only [jc, Bool.not_eq_true', Bool.not_eq_false', decide_eq_true_eq, decide_eq_false_iff_not] at c2
        refine mj_T.pl rfl rfl rfl rfl ?_
        refine jT.lc 0 rfl rfl ?_
        refine mj_T.lif (a := d) (b := ((0 : Nat) : Int)) rfl rfl hd jR_0 (fun c3 => ?_) (fun c3 => ?_)
        · simp only [jc, Bool.not_eq_true', Bool.not_eq_false', decide_eq_true_eq, decide_eq_false_iff_not] at c3
          refine jT.lc 0 rfl rfl ?_
          refine mj_T.call rfl rfl (Nat.le_of_ble_eq_true rfl) (Nat.le_of_ble_eq_true rfl) (mV_of m 18 ((mK_p kp).2.2.2 _ (by omega)) (by decide) rfl (by decide) rfl _) rfl (mj_Ok.up (by omega) (mW_setLong (D := 0) (v := ((0 : Nat) : Int)) m ((mK_p kp).2.2.2 _ (by omega)) jR_0 (by rw [jnl_0]; omega))) (fun v g4 hq => ?_) (fun i g4 hq => ?_)
          rotate_left
          · obtain ⟨_, _, hq⟩ := hq; cases hq
          obtain ⟨_, m5, hq⟩ := hq
          cases hq
          refine mj_T.eq (pc2 := 46) (st2 := []) ?_ rfl rfl rfl rfl
          refine mj_T.iinc rfl rfl ?_
          rw [show ((i : Nat) : Int) + 1 = ((i + 1 : Nat) : Int) by omega]
          refine mj_T.eq (loc2 := [some (.ref p), some (.ref r), some (.long (jl d)), none, some (.int (jn (((i + 1) : Nat) : Int)))]) ?_ rfl rfl rfl rfl
          refine mj_T.pl rfl rfl rfl rfl ?_
          refine mP_load_loop kp kr hm hd hX hcap hend k (i + 1) (by omega) _ (m5.to ?_ rfl)
          rw [pfl_succ]
          congr 1
          rw [show d = 0 by omega, Int.tdiv_zero]
          rfl
        · simp only [jc, Bool.not_eq_true', Bool.not_eq_false', decide_eq_true_eq, decide_eq_false_iff_not] at c3
          iterate 2 refine mj_T.pl rfl rfl rfl rfl ?_
          refine mT_lald m kr rfl ⟨by omega, by omega⟩ ?_
          refine mj_T.eq (st2 := [.long (jl (X r i)), .ref (p + 4 + 2 * i)]) ?_ rfl rfl rfl rfl
          refine mj_T.pl rfl rfl rfl rfl ?_
          refine mT_ldiv rfl hxr hxn hd (by omega) ?_
          refine mj_T.pl rfl rfl rfl rfl ?_
          refine mj_T.call rfl rfl (Nat.le_of_ble_eq_true rfl) (Nat.le_of_ble_eq_true rfl) (mV_of m 18 ((mK_p kp).2.2.2 _ (by omega)) (by decide) rfl (by decide) rfl _) rfl (mj_Ok.up (by omega) (mW_setLong (D := 0) (v := ((X r i).tdiv d)) m ((mK_p kp).2.2.2 _ (by omega)) hj hjn)) (fun v g6 hq => ?_) (fun i g6 hq => ?_)
          rotate_left
          · obtain ⟨_, _, hq⟩ := hq; cases hq
          obtain ⟨_, m7, hq⟩ := hq
          cases hq
          refine mj_T.eq (pc2 := 46) (st2 := []) ?_ rfl rfl rfl rfl
          refine mj_T.iinc rfl rfl ?_
          rw [show ((i : Nat) : Int) + 1 = ((i + 1 : Nat) : Int) by omega]
          refine mj_T.eq (loc2 := [some (.ref p), some (.ref r), some (.long (jl d)), none, some (.int (jn (((i + 1) : Nat) : Int)))]) ?_ rfl rfl rfl rfl
          refine mj_T.pl rfl rfl rfl rfl ?_
          refine mP_load_loop kp kr hm hd hX hcap hend k (i + 1) (by omega) _ (m7.to ?_ rfl)
          rw [pfl_succ]
theorem mP_load (m : jM g n V X h) {d : Int} (kp : cK p = 13) (kr : cK r = 2) (hm : cL (p + 3) = 13) (hd : jR d) (hX : ∀ i, i < 13 → (X r i).natAbs ≤ 999999999999999999) (hcap : ∀ i, i < 13 → 2 ≤ cL (p + 4 + 2 * i + 1)) : mj_Ok (D + 2) 40 [.ref p, .ref r, .long (jl d)] h (fun z => ∃ h2, jM g n (pfl V p (fun e => (X r e).tdiv d) 13) (xup X p 2 ((fdg (fun e => (X r e).tdiv d) 13 : Int) - 1)) h2 ∧ z = (.inl none, h2)) := by
  refine mj_Ok.of (M := mj_m40) rfl rfl rfl ?_
  refine mj_T.pl rfl rfl rfl rfl ?_
  refine mj_T.pl (loc' := [some (.ref p), some (.ref r), some (.long (jl d)), none, some (.int (jn 0))]) rfl rfl rfl rfl ?_
  refine mP_load_loop kp kr hm hd hX hcap (fun h1 m1 => ?_) 13 0 (by omega) _ (m.to (pfl_zero _ _ _) rfl)
  refine mj_T.pl rfl rfl rfl rfl ?_
  refine mj_T.call rfl rfl (Nat.le_of_ble_eq_true rfl) (Nat.le_of_ble_eq_true rfl) (mV_of m1 13 kp (by decide) rfl (by decide) rfl _) rfl (mj_Ok.up (by omega) (mP_settle (D := 0) m1 kp (pcl_pfl (by omega) (fun i hi => Nat.le_trans (jnl_two.mpr (by have q1 := hX i hi; have q2 := Int.natAbs_tdiv_le_natAbs (X r i) d; omega)) (by decide))))) (fun v g61 hq => ?_) (fun i g61 hq => ?_)
  rotate_left
  · obtain ⟨_, _, hq⟩ := hq; cases hq
  obtain ⟨_, m62, hq⟩ := hq
  cases hq
  refine mj_T.eq (pc2 := 56) (st2 := []) ?_ rfl rfl rfl rfl
  exact mj_T.ret rfl rfl rfl ⟨_, m62.to rfl (by rw [hm, fdg_congr _ (fun i hi => pco_pfl i hi)]), rfl⟩
/-- a register may take it -/
def pok (V : Nat → Int) (p c : Nat) : Prop := ∀ i, i < c → jnl (V (p + 4 + 2 * i)).natAbs ≤ if i ≤ 12 then 2 else 0
theorem mP_store1 (kp : cK p = 13) (hcl : pcl V p) (m : jM g n V X h) {Q : mj_R → Prop} (hbad : ¬ pok V p (cL (p + 3)) → Q (.inl (some (.int (jn 0))), h)) (hok : pok V p (cL (p + 3)) → mj_T D mj_m44 42 [some (.ref p), some (.ref r), some (.int (jn (cL (p + 3) : Int)))] [] h Q) : ∀ k i, i + k = cL (p + 3) → pok V p i → mj_T D mj_m44 2 [some (.ref p), some (.ref r), some (.int (jn (i : Int)))] [] h Q
  | 0, i, hi, hp => by
    have hb := (mK_p kp).2.2.1
    iterate 2 refine mj_T.pl rfl rfl rfl rfl ?_
    refine mT_get m 13 kp (by decide) rfl rfl ?_
    refine mT_alen m 4 (mK_p kp).2.1 (by decide) rfl ?_
    refine mj_T.icmp (a := ((i : Nat) : Int)) (b := ((cL (p + 3) : Nat) : Int)) rfl ⟨by omega, by omega⟩ ⟨by omega, by omega⟩ (fun c1 => ?_) (fun c1 => ?_)
    · simp only [jc, Bool.not_eq_true', Bool.not_eq_false', decide_eq_true_eq, decide_eq_false_iff_not] at c1
      rw [show i = cL (p + 3) by omega] at hp ⊢
      exact hok hp
    · exfalso
      simp only [jc, Bool.not_eq_true', Bool.not_eq_false', decide_eq_true_eq, decide_eq_false_iff_not] at c1
      omega
  | k + 1, i, hi, hp => by
    have hb := (mK_p kp).2.2.1
    have hci := hcl i (by omega)
    obtain ⟨q0, _, _, _, hs⟩ := m.W ((mK_p kp).2.2.2 i (by omega))
    have hs2 := (mK_w (Or.inl ((mK_p kp).2.2.2 i (by omega)))).2.1
    have hjr : jr ((jnl (V (p + 4 + 2 * i)).natAbs : Nat) : Int) := ⟨by omega, by omega⟩
    iterate 2 refine mj_T.pl rfl rfl rfl rfl ?_
    refine mT_get m 13 kp (by decide) rfl rfl ?_
    refine mT_alen m 4 (mK_p kp).2.1 (by decide) rfl ?_
    refine mj_T.icmp (a := ((i : Nat) : Int)) (b := ((cL (p + 3) : Nat) : Int)) rfl ⟨by omega, by omega⟩ ⟨by omega, by omega⟩ (fun c1 => ?_) (fun c1 => ?_)
    · exfalso
      simp only [jc, Bool.not_eq_true', Bool.not_eq_false', decide_eq_true_eq, decide_eq_false_iff_not] at c1
      omega
    · simp only [jc, Bool.not_eq_true', Bool.not_eq_false', decide_eq_true_eq, decide_eq_false_iff_not] at c1
      refine mj_T.pl rfl rfl rfl rfl ?_
      refine mT_get m 13 kp (by decide) rfl rfl ?_
      refine mj_T.pl rfl rfl rfl rfl ?_
      refine mT_aald m 4 (mK_p kp).2.1 (by decide) rfl rfl (by omega) ⟨by omega, by omega⟩ ?_
      refine mj_T.eq (st2 := [.ref (p + 4 + 2 * i)]) ?_ rfl rfl rfl rfl
      refine mT_sz m ((mK_p kp).2.2.2 _ (by omega)) rfl ?_
      iterate 2 refine mj_T.pl rfl rfl rfl rfl ?_
      refine mj_T.icmp (a := ((i : Nat) : Int)) (b := 12) rfl ⟨by omega, by omega⟩ ⟨by omega, by omega⟩ (fun c2 => ?_) (fun c2 => ?_)
      · simp only [jc, Bool.not_eq_true', Bool.not_eq_false', decide_eq_true_eq, decide_eq_false_iff_not] at c2
        refine mj_T.pl rfl rfl rfl rfl ?_
        refine mj_T.icmp (a := ((jnl (V (p + 4 + 2 * i)).natAbs : Nat) : Int)) (b := 0) rfl hjr ⟨by omega, by omega⟩ (fun c3 => ?_) (fun c3 => ?_)
        · simp only [jc, Bool.not_eq_true', Bool.not_eq_false', decide_eq_true_eq, decide_eq_false_iff_not] at c3
          refine mj_T.iinc rfl rfl ?_
          rw [show ((i : Nat) : Int) + 1 = ((i + 1 : Nat) : Int) by omega]
          refine mj_T.eq (loc2 := [some (.ref p), some (.ref r), some (.int (jn (((i + 1) : Nat) : Int)))]) ?_ rfl rfl rfl rfl
          refine mj_T.pl rfl rfl rfl rfl ?_
          refine mP_store1 kp hcl m hbad hok k (i + 1) (by omega) (fun x hx => ?_)
          by_cases e : x = i
          · subst e
            split <;> omega
          · exact hp x (by omega)
        · simp only [jc, Bool.not_eq_true', Bool.not_eq_false', decide_eq_true_eq, decide_eq_false_iff_not] at c3
          refine mj_T.pl rfl rfl rfl rfl ?_
          refine mj_T.ret rfl rfl rfl (hbad (fun q => ?_))
          have q := q i (by omega)
          split at q <;> omega
      · simp only [jc, Bool.not_eq_true', Bool.not_eq_false', decide_eq_true_eq, decide_eq_false_iff_not] at c2
        iterate 2 refine mj_T.pl rfl rfl rfl rfl ?_
        refine mj_T.icmp (a := ((jnl (V (p + 4 + 2 * i)).natAbs : Nat) : Int)) (b := 2) rfl hjr ⟨by omega, by omega⟩ (fun c4 => ?_) (fun c4 => ?_)
        · simp only [jc, Bool.not_eq_true', Bool.not_eq_false', decide_eq_true_eq, decide_eq_false_iff_not] at c4
          refine mj_T.iinc rfl rfl ?_
          rw [show ((i : Nat) : Int) + 1 = ((i + 1 : Nat) : Int) by omega]
          refine mj_T.eq (loc2 := [some (.ref p), some (.ref r), some (.int (jn (((i + 1) : Nat) : Int)))]) ?_ rfl rfl rfl rfl
          refine mj_T.pl rfl rfl rfl rfl ?_
          refine mP_store1 kp hcl m hbad hok k (i + 1) (by omega) (fun x hx => ?_)
          by_cases e : x = i
          · subst e
            split <;> omega
          · exact hp x (by omega)
        · simp only [jc, Bool.not_eq_true', Bool.not_eq_false', decide_eq_true_eq, decide_eq_false_iff_not] at c4
          refine mj_T.pl rfl rfl rfl rfl ?_
          refine mj_T.ret rfl rfl rfl (hbad (fun q => ?_))
          have q := q i (by omega)
          split at q <;> omega
theorem mP_store2 (kp : cK p = 13) (hcl : pcl V p) (kr : cK r = 2) (hm : 13 ≤ cL (p + 3)) {Q : mj_R → Prop} (hend : ∀ h, jM g n V (xfl X r (pco V p) 13) h → Q (.inl (some (.int (jn 1))), h)) : ∀ k i, i + k = 13 → ∀ h, jM g n V (xfl X r (pco V p) i) h → mj_T (D + 1) mj_m44 44 [some (.ref p), some (.ref r), some (.int (jn (i : Int)))] [] h Q
  | 0, i, hi, h, m => by
    iterate 2 refine mj_T.pl rfl rfl rfl rfl ?_
    refine mT_llen m kr rfl ?_
    refine mj_T.icmp (a := ((i : Nat) : Int)) (b := ((13 : Nat) : Int)) rfl ⟨by omega, by omega⟩ ⟨by omega, by omega⟩ (fun c1 => ?_) (fun c1 => ?_)
    · simp only [jc, Bool.not_eq_true', Bool.not_eq_false', decide_eq_true_eq, decide_eq_false_iff_not] at c1
      refine mj_T.pl rfl rfl rfl rfl ?_
      exact mj_T.ret rfl rfl rfl (hend _ (m.to rfl (by rw [show i = 13 by omega])))
    · exfalso
      simp only [jc, Bool.not_eq_true', Bool.not_eq_false', decide_eq_true_eq, decide_eq_false_iff_not] at c1
      omega
  | k + 1, i, hi, h, m => by
    have hci := hcl i (by omega)
    iterate 2 refine mj_T.pl rfl rfl rfl rfl ?_
    refine mT_llen m kr rfl ?_
    refine mj_T.icmp (a := ((i : Nat) : Int)) (b := ((13 : Nat) : Int)) rfl ⟨by omega, by omega⟩ ⟨by omega, by omega⟩ (fun c1 => ?_) (fun c1 => ?_)
    · exfalso
      simp only [jc, Bool.not_eq_true', Bool.not_eq_false', decide_eq_true_eq, decide_eq_false_iff_not] at c1
      omega
    · simp only [jc, Bool.not_eq_true', Bool.not_eq_false', decide_eq_true_eq, decide_eq_false_iff_not] at c1
      iterate 4 refine mj_T.pl rfl rfl rfl rfl ?_
      refine mj_T.call rfl rfl (Nat.le_of_ble_eq_true rfl) (Nat.le_of_ble_eq_true rfl) (mV_of m 13 kp (by decide) rfl (by decide) rfl _) rfl (mj_Ok.up (by omega) (mP_at (D := 0) m kp (e := i) (by omega))) (fun v g2 hq => ?_) (fun i g2 hq => ?_)
      rotate_left
      · cases hq
      cases hq
      refine mj_T.eq (pc2 := 57) (st2 := [.ref (p + 4 + 2 * i), .int (jn ((i : Nat) : Int)), .ref r]) ?_ rfl rfl rfl rfl
      refine mj_T.call rfl rfl (Nat.le_of_ble_eq_true rfl) (Nat.le_of_ble_eq_true rfl) (mV_of m 18 ((mK_p kp).2.2.2 _ (by omega)) (by decide) rfl (by decide) rfl _) rfl (mj_Ok.up (by omega) (mW_low (D := 0) m ((mK_p kp).2.2.2 _ (by omega)))) (fun v g3 hq => ?_) (fun i g3 hq => ?_)
      rotate_left
      · cases hq
      cases hq
      refine mj_T.eq (pc2 := 60) (st2 := [.long (jl (V (p + 4 + 2 * i))), .int (jn ((i : Nat) : Int)), .ref r]) ?_ rfl rfl rfl rfl
      refine mT_last (v := (V (p + 4 + 2 * i))) m kr rfl ⟨by omega, by omega⟩ (fun h4 m5 => ?_)
      refine mj_T.iinc rfl rfl ?_
      rw [show ((i : Nat) : Int) + 1 = ((i + 1 : Nat) : Int) by omega]
      refine mj_T.eq (loc2 := [some (.ref p), some (.ref r), some (.int (jn (((i + 1) : Nat) : Int)))]) ?_ rfl rfl rfl rfl
      refine mj_T.pl rfl rfl rfl rfl ?_
      exact mP_store2 kp hcl kr hm hend k (i + 1) (by omega) _ (m5.to rfl (xfl_succ X r _ i))
theorem mP_store (m : jM g n V X h) (kp : cK p = 13) (hcl : pcl V p) (kr : cK r = 2) (hm : 13 ≤ cL (p + 3)) : mj_Ok (D + 2) 44 [.ref p, .ref r] h (fun z => (pok V p (cL (p + 3)) ∧ ∃ h2, jM g n V (xfl X r (pco V p) 13) h2 ∧ z = (.inl (some (.int (jn 1))), h2)) ∨ (¬ pok V p (cL (p + 3)) ∧ z = (.inl (some (.int (jn 0))), h))) := by
  have hb := (mK_p kp).2.2.1
  refine mj_Ok.of (M := mj_m44) rfl rfl rfl ?_
  refine mj_T.pl rfl rfl rfl rfl ?_
  refine mj_T.pl (loc' := [some (.ref p), some (.ref r), some (.int (jn 0))]) rfl rfl rfl rfl ?_
  refine mP_store1 kp hcl m (fun q => Or.inr ⟨q, rfl⟩) (fun q => ?_) (cL (p + 3)) 0 (by omega) (fun x hx => absurd hx (by omega))
  refine mj_T.pl rfl rfl rfl rfl ?_
  refine mj_T.pl (loc' := [some (.ref p), some (.ref r), some (.int (jn 0))]) rfl rfl rfl rfl ?_
  exact mP_store2 kp hcl kr hm (fun h1 m1 => Or.inl ⟨q, h1, m1, rfl⟩) 13 0 (by omega) _ (m.to rfl (xfl_zero _ _ _))
end MPR
/-! The desk of the class, exactly: a step of an elimination. -/
/-- the desk's two numbers -/
def scr (V : Nat → Int) (z1 z2 : Int) : Nat → Int := jvu (jvu V 164 z1) 166 z2
theorem scr_self (V : Nat → Int) : scr V (V 164) (V 166) = V := funext fun a => by
  simp only [scr, jvu]
  split
  · rename_i e
    rw [e]
  · split
    · rename_i e
      rw [e]
    · rfl
theorem scr_scr (V : Nat → Int) (a b c d : Int) : scr (scr V a b) c d = scr V c d := funext fun x => by
  simp only [scr, jvu]
  (repeat' split) <;> rfl
theorem scr_off (V : Nat → Int) (z1 z2 : Int) {a : Nat} (h1 : a ≠ 164) (h2 : a ≠ 166) : scr V z1 z2 a = V a := by
  unfold scr
  rw [jvu_ne _ _ _ h2, jvu_ne _ _ _ h1]
theorem scr_1 (V : Nat → Int) (z1 z2 : Int) : scr V z1 z2 164 = z1 := by
  unfold scr
  rw [jvu_ne _ _ _ (by decide), jvu_at]
theorem scr_2 (V : Nat → Int) (z1 z2 : Int) : scr V z1 z2 166 = z2 := by
  unfold scr
  rw [jvu_at]
theorem scr_p1 (V : Nat → Int) (z1 z2 A : Int) : jvu (scr V z1 z2) 164 A = scr V A z2 := funext fun x => by
  simp only [scr, jvu]
  (repeat' split) <;> first | rfl | omega
theorem scr_p2 (V : Nat → Int) (z1 z2 A : Int) : jvu (scr V z1 z2) 166 A = scr V z1 A := funext fun x => by
  simp only [scr, jvu]
  (repeat' split) <;> first | rfl | omega
theorem pfl_jvu {V : Nat → Int} {p a k : Nat} {w : Nat → Int} {v : Int} (h : a < p + 4 ∨ p + 4 + 2 * k ≤ a) : jvu (pfl V p w k) a v = pfl (jvu V a v) p w k := funext fun x => by
  simp only [pfl, jvu]
  by_cases c : x = a
  · rw [if_pos c, if_neg (by omega), if_pos c]
  · rw [if_neg c]
    by_cases d : p + 4 ≤ x ∧ x < p + 4 + 2 * k ∧ (x - p) % 2 = 0
    · rw [if_pos d, if_pos d]
    · rw [if_neg d, if_neg d, if_neg c]
theorem pfl_upd {V : Nat → Int} {p k e : Nat} {w : Nat → Int} {v : Int} (h : e < k) : jvu (pfl V p w k) (p + 4 + 2 * e) v = pfl V p (jvu w e v) k := funext fun x => by
  simp only [pfl, jvu]
  by_cases c : x = p + 4 + 2 * e
  · rw [if_pos c, if_pos (by omega), if_pos (by omega)]
  · rw [if_neg c]
    by_cases d : p + 4 ≤ x ∧ x < p + 4 + 2 * k ∧ (x - p) % 2 = 0
    · rw [if_pos d, if_pos d, if_neg (by omega)]
    · rw [if_neg d, if_neg d]
theorem pfl_congr {V : Nat → Int} {p k : Nat} {w w' : Nat → Int} (h : ∀ e, e < k → w' e = w e) : pfl V p w' k = pfl V p w k := funext fun x => by
  unfold pfl
  split
  · rw [h _ (by omega)]
  · rfl
theorem lk_off {V : Nat → Int} {z1 z2 : Int} {p k a : Nat} {w : Nat → Int} (h : a < p + 4 ∨ p + 4 + 2 * k ≤ a) (h1 : a ≠ 164) (h2 : a ≠ 166) : pfl (scr V z1 z2) p w k a = V a := by
  rw [pfl_off _ _ _ h, scr_off _ _ _ h1 h2]
theorem lk_1 {V : Nat → Int} {z1 z2 : Int} {p k : Nat} {w : Nat → Int} (h : 164 < p + 4 ∨ p + 4 + 2 * k ≤ 164) : pfl (scr V z1 z2) p w k 164 = z1 := by
  rw [pfl_off _ _ _ h, scr_1]
theorem lk_2 {V : Nat → Int} {z1 z2 : Int} {p k : Nat} {w : Nat → Int} (h : 166 < p + 4 ∨ p + 4 + 2 * k ≤ 166) : pfl (scr V z1 z2) p w k 166 = z2 := by
  rw [pfl_off _ _ _ h, scr_2]
theorem lk_p1 {V : Nat → Int} {z1 z2 A : Int} {p k : Nat} {w : Nat → Int} (h : 164 < p + 4 ∨ p + 4 + 2 * k ≤ 164) : jvu (pfl (scr V z1 z2) p w k) 164 A = pfl (scr V A z2) p w k := by
  rw [pfl_jvu h, scr_p1]
theorem lk_p2 {V : Nat → Int} {z1 z2 A : Int} {p k : Nat} {w : Nat → Int} (h : 166 < p + 4 ∨ p + 4 + 2 * k ≤ 166) : jvu (pfl (scr V z1 z2) p w k) 166 A = pfl (scr V z1 A) p w k := by
  rw [pfl_jvu h, scr_p2]
theorem jnl_mulB {a b : Int} {al be m : Nat} (ha : a.natAbs ≤ al) (hb : b.natAbs ≤ be) (h : al * be < jB ^ m) : jnl (a * b).natAbs ≤ m := by
  rw [jnl_le_lt, Int.natAbs_mul]
  exact Nat.lt_of_le_of_lt (Nat.mul_le_mul ha hb) h
theorem jnl_B {a : Int} {al m : Nat} (ha : a.natAbs ≤ al) (h : al < jB ^ m) : jnl a.natAbs ≤ m := jnl_le_lt.mpr (by omega)
/-- a step of an elimination -/
def elw (F B : Nat → Int) (db s : Nat) : Nat → Int := fun e => if e ≤ db + s then B db * F e - F (db + s) * (if e < s then 0 else B (e - s)) else F e
theorem elw_abs {F B : Nat → Int} {db s al be : Nat} (hF : ∀ e, (F e).natAbs ≤ al) (hB : ∀ e, (B e).natAbs ≤ be) (h1 : 1 ≤ be) (e : Nat) : (elw F B db s e).natAbs ≤ 2 * (al * be) := by
  unfold elw
  have a1 := Nat.mul_le_mul (hB db) (hF e)
  have a2 : (F (db + s) * (if e < s then 0 else B (e - s))).natAbs ≤ al * be := by
    rw [Int.natAbs_mul]
    exact Nat.mul_le_mul (hF _) (by split; exact Nat.zero_le _; exact hB _)
  rw [← Int.natAbs_mul, Nat.mul_comm be al] at a1
  split
  · omega
  · have := hF e
    have a3 : al ≤ al * be := Nat.le_mul_of_pos_right _ h1
    omega
section MEL
variable {g h : mj_H} {n D p : Nat} {V : Nat → Int} {X : Nat → Nat → Int}
theorem mD_elim_loop {db s al be : Nat} (kp : cK p = 13) (hp : p ≠ 80) (hd : X p 2 = (db : Int)) (hdb : db < cL (p + 3)) (hs : db + s < 13) (hF : ∀ e, e < 13 → (V (80 + 4 + 2 * e)).natAbs ≤ al) (hB : ∀ e, e < cL (p + 3) → (V (p + 4 + 2 * e)).natAbs ≤ be) (hfit : 2 * (al * be) < jB ^ 236) (hc1 : al < jB ^ 1500) (hc2 : be < jB ^ 1500) {Q : mj_R → Prop} (hend : ∀ (z1 z2 : Int) (l7 : Option Value) (h : mj_H), jM g n (pfl (scr V z1 z2) 80 (elw (pco V 80) (pco V p) db s) (db + s)) X h → mj_T (D + 2) mj_m17 101 [some (.ref 19), some (.ref 80), some (.ref p), some (.int (jn (s : Int))), some (.ref (80 + 4 + 2 * (db + s))), some (.ref (p + 4 + 2 * db)), some (.int (jn ((db + s : Nat) : Int))), l7] [] h Q) : ∀ k i, i + k = db + s → ∀ (z1 z2 : Int) (l7 : Option Value) (h : mj_H), jM g n (pfl (scr V z1 z2) 80 (elw (pco V 80) (pco V p) db s) i) X h → mj_T (D + 2) mj_m17 21 [some (.ref 19), some (.ref 80), some (.ref p), some (.int (jn (s : Int))), some (.ref (80 + 4 + 2 * (db + s))), some (.ref (p + 4 + 2 * db)), some (.int (jn (i : Int))), l7] [] h Q
  | 0, i, hi, z1, z2, l7, h, m => by
    have hbp := (mK_p kp).2.2.1
    iterate 2 refine mj_T.pl rfl rfl rfl rfl ?_
    refine mT_get (v := .int (jn ((db : Nat) : Int))) m 13 kp (by decide) rfl (congrArg (fun z : Int => some (Value.int (jn z))) (hd)) ?_
    refine mj_T.pl rfl rfl rfl rfl ?_
    refine mj_T.iadd (a := ((db : Nat) : Int)) (b := ((s : Nat) : Int)) rfl ?_
    refine mj_T.icmp (a := ((i : Nat) : Int)) (b := (((db : Nat) : Int) + ((s : Nat) : Int))) rfl ⟨by omega, by omega⟩ ⟨by omega, by omega⟩ (fun c1 => ?_) (fun c1 => ?_)
    · simp only [jc, Bool.not_eq_true', Bool.not_eq_false', decide_eq_true_eq, decide_eq_false_iff_not] at c1
      rw [show i = db + s by omega] at m ⊢
      exact hend z1 z2 l7 _ m
    · exfalso
      simp only [jc, Bool.not_eq_true', Bool.not_eq_false', decide_eq_true_eq, decide_eq_false_iff_not] at c1
      omega
  | k + 1, i, hi, z1, z2, l7, h, m => by
    have hbp := (mK_p kp).2.2.1
    have hf := mP_far kp cq_d80 hp
    have hpp := mP_pos kp
    have h83 : cL (80 + 3) = 13 := mK_z.2.2.1
    have c1 : cL (164 + 1) = 240 := mK_z.2.2.2.2.2.2.2.1
    have c2 : cL (166 + 1) = 240 := mK_z.2.2.2.2.2.2.2.2.1
    have c3 := (mK_z.2.2.2.2.1 i (by omega)).2.2
    rw [h83] at hf
    have hfit1 : al * be < jB ^ 236 := by omega
    have a1 := Nat.mul_le_mul (hF i (by omega)) (hB db hdb)
    rw [← Int.natAbs_mul] at a1
    have hr1 : jnl (V (80 + 4 + 2 * i) * V (p + 4 + 2 * db)).natAbs ≤ 236 := jnl_B a1 hfit1
    have hr2 : s ≤ i → jnl (V (80 + 4 + 2 * i) * V (p + 4 + 2 * db) + -1 * (V (80 + 4 + 2 * (db + s)) * V (p + 4 + 2 * (i - s)))).natAbs ≤ 236 := fun hsi => by
      have a2 := Nat.mul_le_mul (hF (db + s) (by omega)) (hB (i - s) (by omega))
      rw [← Int.natAbs_mul] at a2
      exact jnl_B (al := 2 * (al * be)) (by omega) hfit
    have hw : elw (pco V 80) (pco V p) db s i = if i < s then V (80 + 4 + 2 * i) * V (p + 4 + 2 * db) else V (80 + 4 + 2 * i) * V (p + 4 + 2 * db) + -1 * (V (80 + 4 + 2 * (db + s)) * V (p + 4 + 2 * (i - s))) := by
      unfold elw pco
      rw [if_pos (by omega), Int.mul_comm (V (p + 4 + 2 * db))]
      split
      · rw [Int.mul_zero, Int.sub_zero]
      · omega
    iterate 2 refine mj_T.pl rfl rfl rfl rfl ?_
    refine mT_get (v := .int (jn ((db : Nat) : Int))) m 13 kp (by decide) rfl (congrArg (fun z : Int => some (Value.int (jn z))) (hd)) ?_
    refine mj_T.pl rfl rfl rfl rfl ?_
    refine mj_T.iadd (a := ((db : Nat) : Int)) (b := ((s : Nat) : Int)) rfl ?_
    refine mj_T.icmp (a := ((i : Nat) : Int)) (b := (((db : Nat) : Int) + ((s : Nat) : Int))) rfl ⟨by omega, by omega⟩ ⟨by omega, by omega⟩ (fun c1 => ?_) (fun c1 => ?_)
    · exfalso
      simp only [jc, Bool.not_eq_true', Bool.not_eq_false', decide_eq_true_eq, decide_eq_false_iff_not] at c1
      omega
    · simp only [jc, Bool.not_eq_true', Bool.not_eq_false', decide_eq_true_eq, decide_eq_false_iff_not] at c1
      iterate 2 refine mj_T.pl rfl rfl rfl rfl ?_
      refine mj_T.call rfl rfl (Nat.le_of_ble_eq_true rfl) (Nat.le_of_ble_eq_true rfl) (mV_of m 13 cq_d80 (by decide) rfl (by decide) rfl _) rfl (mj_Ok.up (by omega) (mP_at (D := 0) m cq_d80 (e := i) (by omega))) (fun v g2 hq => ?_) (fun i g2 hq => ?_)
      rotate_left
      · cases hq
      cases hq
      refine mj_T.eq (pc2 := 38) (st2 := [.ref (80 + 4 + 2 * i)]) ?_ rfl rfl rfl rfl
      refine mj_T.pl (loc' := [some (.ref 19), some (.ref 80), some (.ref p), some (.int (jn ((s : Nat) : Int))), some (.ref (80 + 4 + 2 * (db + s))), some (.ref (p + 4 + 2 * db)), some (.int (jn ((i : Nat) : Int))), some (.ref (80 + 4 + 2 * i))]) rfl rfl rfl rfl ?_
      refine mj_T.pl rfl rfl rfl rfl ?_
      refine mT_get m 11 cq_d19 (by decide) rfl rfl ?_
      iterate 2 refine mj_T.pl rfl rfl rfl rfl ?_
      refine mj_T.call rfl rfl (Nat.le_of_ble_eq_true rfl) (Nat.le_of_ble_eq_true rfl) (mV_of m 18 cq_d164 (by decide) rfl (by decide) rfl _) rfl (mj_Ok.up (by omega) (mW_setProduct (D := 0) m cq_d164 ((mK_p cq_d80).2.2.2 _ (by omega)) ((mK_p kp).2.2.2 _ (by omega)) (by omega) (by omega) (by omega) (by rw [lk_off (a := 80 + 4 + 2 * i) (by omega) (by omega) (by omega), lk_off (a := p + 4 + 2 * db) (by omega) (by omega) (by omega)]; exact Nat.le_trans (jnl_mulB (hF i (by omega)) (hB db hdb) hfit1) (by omega)) (hca := by rw [lk_off (a := 80 + 4 + 2 * i) (by omega) (by omega) (by omega)]; exact jnl_B (hF i (by omega)) hc1) (hcb := by rw [lk_off (a := p + 4 + 2 * db) (by omega) (by omega) (by omega)]; exact jnl_B (hB db hdb) hc2))) (fun v g3 hq => ?_) (fun i g3 hq => ?_)
      rotate_left
      · obtain ⟨_, _, hq⟩ := hq; cases hq
      obtain ⟨_, m4, hq⟩ := hq
      cases hq
      rw [lk_off (a := 80 + 4 + 2 * i) (by omega) (by omega) (by omega), lk_off (a := p + 4 + 2 * db) (by omega) (by omega) (by omega), lk_p1 (by omega)] at m4
      refine mj_T.eq (pc2 := 51) (st2 := []) ?_ rfl rfl rfl rfl
      iterate 2 refine mj_T.pl rfl rfl rfl rfl ?_
      refine mj_T.icmp (a := ((i : Nat) : Int)) (b := ((s : Nat) : Int)) rfl ⟨by omega, by omega⟩ ⟨by omega, by omega⟩ (fun c5 => ?_) (fun c5 => ?_)
      · simp only [jc, Bool.not_eq_true', Bool.not_eq_false', decide_eq_true_eq, decide_eq_false_iff_not] at c5
        iterate 2 refine mj_T.pl rfl rfl rfl rfl ?_
        refine mT_get m4 11 cq_d19 (by decide) rfl rfl ?_
        refine mj_T.call rfl rfl (Nat.le_of_ble_eq_true rfl) (Nat.le_of_ble_eq_true rfl) (mV_of m4 18 ((mK_p cq_d80).2.2.2 _ (by omega)) (by decide) rfl (by decide) rfl _) rfl (mj_Ok.up (by omega) (mW_set (D := 0) m4 ((mK_p cq_d80).2.2.2 _ (by omega)) cq_d164 (by omega) (by rw [lk_1 (by omega)]; exact Nat.le_trans hr1 (by omega)))) (fun v g6 hq => ?_) (fun i g6 hq => ?_)
        rotate_left
        · obtain ⟨_, _, hq⟩ := hq; cases hq
        obtain ⟨_, m7, hq⟩ := hq
        cases hq
        rw [lk_1 (by omega)] at m7
        refine mj_T.eq (pc2 := 95) (st2 := []) ?_ rfl rfl rfl rfl
        refine mj_T.iinc rfl rfl ?_
        rw [show ((i : Nat) : Int) + 1 = ((i + 1 : Nat) : Int) by omega]
        refine mj_T.eq (loc2 := [some (.ref 19), some (.ref 80), some (.ref p), some (.int (jn ((s : Nat) : Int))), some (.ref (80 + 4 + 2 * (db + s))), some (.ref (p + 4 + 2 * db)), some (.int (jn (((i + 1) : Nat) : Int))), some (.ref (80 + 4 + 2 * i))]) ?_ rfl rfl rfl rfl
        refine mj_T.pl rfl rfl rfl rfl ?_
        refine mD_elim_loop kp hp hd hdb hs hF hB hfit hc1 hc2 hend k (i + 1) (by omega) (V (80 + 4 + 2 * i) * V (p + 4 + 2 * db)) z2 (some (.ref (80 + 4 + 2 * i))) _ (m7.to ?_ rfl)
        rw [pfl_succ]
        congr 1
        rw [hw, if_pos (by omega)]
      · simp only [jc, Bool.not_eq_true', Bool.not_eq_false', decide_eq_true_eq, decide_eq_false_iff_not] at c5
        refine mj_T.pl rfl rfl rfl rfl ?_
        refine mT_get m4 11 cq_d19 (by decide) rfl rfl ?_
        iterate 4 refine mj_T.pl rfl rfl rfl rfl ?_
        refine mj_T.isub (a := ((i : Nat) : Int)) (b := ((s : Nat) : Int)) rfl ?_
        rw [show (((i : Nat) : Int) - ((s : Nat) : Int)) = (((i - s) : Nat) : Int) by omega]
        refine mj_T.call rfl rfl (Nat.le_of_ble_eq_true rfl) (Nat.le_of_ble_eq_true rfl) (mV_of m4 13 kp (by decide) rfl (by decide) rfl _) rfl (mj_Ok.up (by omega) (mP_at (D := 0) m4 kp (e := (i - s)) (by omega))) (fun v g8 hq => ?_) (fun i g8 hq => ?_)
        rotate_left
        · cases hq
        cases hq
        refine mj_T.eq (pc2 := 71) (st2 := [.ref (p + 4 + 2 * (i - s)), .ref (80 + 4 + 2 * (db + s)), .ref 166]) ?_ rfl rfl rfl rfl
        refine mj_T.call rfl rfl (Nat.le_of_ble_eq_true rfl) (Nat.le_of_ble_eq_true rfl) (mV_of m4 18 cq_d166 (by decide) rfl (by decide) rfl _) rfl (mj_Ok.up (by omega) (mW_setProduct (D := 0) m4 cq_d166 ((mK_p cq_d80).2.2.2 _ (by omega)) ((mK_p kp).2.2.2 _ (by omega)) (by omega) (by omega) (by omega) (by rw [lk_off (a := 80 + 4 + 2 * (db + s)) (by omega) (by omega) (by omega), lk_off (a := p + 4 + 2 * (i - s)) (by omega) (by omega) (by omega)]; exact Nat.le_trans (jnl_mulB (hF (db + s) (by omega)) (hB (i - s) (by omega)) hfit1) (by omega)) (hca := by rw [lk_off (a := 80 + 4 + 2 * (db + s)) (by omega) (by omega) (by omega)]; exact jnl_B (hF (db + s) (by omega)) hc1) (hcb := by rw [lk_off (a := p + 4 + 2 * (i - s)) (by omega) (by omega) (by omega)]; exact jnl_B (hB (i - s) (by omega)) hc2))) (fun v g9 hq => ?_) (fun i g9 hq => ?_)
        rotate_left
        · obtain ⟨_, _, hq⟩ := hq; cases hq
        obtain ⟨_, m10, hq⟩ := hq
        cases hq
        rw [lk_off (a := 80 + 4 + 2 * (db + s)) (by omega) (by omega) (by omega), lk_off (a := p + 4 + 2 * (i - s)) (by omega) (by omega) (by omega), lk_p2 (by omega)] at m10
        refine mj_T.eq (pc2 := 74) (st2 := []) ?_ rfl rfl rfl rfl
        refine mj_T.pl rfl rfl rfl rfl ?_
        refine mT_get m10 11 cq_d19 (by decide) rfl rfl ?_
        refine mj_T.pl rfl rfl rfl rfl ?_
        refine mT_get m10 11 cq_d19 (by decide) rfl rfl ?_
        refine mj_T.pl rfl rfl rfl rfl ?_
        refine mj_T.call rfl rfl (Nat.le_of_ble_eq_true rfl) (Nat.le_of_ble_eq_true rfl) (mV_of m10 18 cq_d164 (by decide) rfl (by decide) rfl _) rfl (mj_Ok.up (by omega) (mW_plus (D := 0) (f := -1) m10 cq_d164 cq_d166 (by omega) (Or.inr rfl) (by rw [lk_2 (by omega)]; exact Nat.le_trans (jnl_mulB (hF (db + s) (by omega)) (hB (i - s) (by omega)) hfit1) (by omega)) (by rw [lk_1 (by omega), lk_2 (by omega)]; exact Nat.le_trans (hr2 (by omega)) (by omega)))) (fun v g11 hq => ?_) (fun i g11 hq => ?_)
        rotate_left
        · obtain ⟨_, _, hq⟩ := hq; cases hq
        obtain ⟨_, m12, hq⟩ := hq
        cases hq
        rw [lk_1 (by omega), lk_2 (by omega), lk_p1 (by omega)] at m12
        refine mj_T.eq (pc2 := 86) (st2 := []) ?_ rfl rfl rfl rfl
        iterate 2 refine mj_T.pl rfl rfl rfl rfl ?_
        refine mT_get m12 11 cq_d19 (by decide) rfl rfl ?_
        refine mj_T.call rfl rfl (Nat.le_of_ble_eq_true rfl) (Nat.le_of_ble_eq_true rfl) (mV_of m12 18 ((mK_p cq_d80).2.2.2 _ (by omega)) (by decide) rfl (by decide) rfl _) rfl (mj_Ok.up (by omega) (mW_set (D := 0) m12 ((mK_p cq_d80).2.2.2 _ (by omega)) cq_d164 (by omega) (by rw [lk_1 (by omega)]; exact Nat.le_trans (hr2 (by omega)) (by omega)))) (fun v g13 hq => ?_) (fun i g13 hq => ?_)
        rotate_left
        · obtain ⟨_, _, hq⟩ := hq; cases hq
        obtain ⟨_, m14, hq⟩ := hq
        cases hq
        rw [lk_1 (by omega)] at m14
        refine mj_T.eq (pc2 := 95) (st2 := []) ?_ rfl rfl rfl rfl
        refine mj_T.iinc rfl rfl ?_
        rw [show ((i : Nat) : Int) + 1 = ((i + 1 : Nat) : Int) by omega]
        refine mj_T.eq (loc2 := [some (.ref 19), some (.ref 80), some (.ref p), some (.int (jn ((s : Nat) : Int))), some (.ref (80 + 4 + 2 * (db + s))), some (.ref (p + 4 + 2 * db)), some (.int (jn (((i + 1) : Nat) : Int))), some (.ref (80 + 4 + 2 * i))]) ?_ rfl rfl rfl rfl
        refine mj_T.pl rfl rfl rfl rfl ?_
        refine mD_elim_loop kp hp hd hdb hs hF hB hfit hc1 hc2 hend k (i + 1) (by omega) ((V (80 + 4 + 2 * i) * V (p + 4 + 2 * db)) + -1 * (V (80 + 4 + 2 * (db + s)) * V (p + 4 + 2 * (i - s)))) (V (80 + 4 + 2 * (db + s)) * V (p + 4 + 2 * (i - s))) (some (.ref (80 + 4 + 2 * i))) _ (m14.to ?_ rfl)
        rw [pfl_succ]
        congr 1
        rw [hw, if_neg (by omega)]
theorem pfl_jvu2 {V : Nat → Int} {p k c : Nat} {w : Nat → Int} {v : Int} (h : c < k) : jvu (pfl V p w c) (p + 4 + 2 * c) v = pfl V p (fun e => if e = c then v else if e < c then w e else V (p + 4 + 2 * e)) k := funext fun x => by
  simp only [pfl, jvu]
  by_cases q : x = p + 4 + 2 * c
  · rw [if_pos q, if_pos (by omega), if_pos (by omega)]
  · rw [if_neg q]
    by_cases r : p + 4 ≤ x ∧ x < p + 4 + 2 * k ∧ (x - p) % 2 = 0
    · by_cases t : (x - p - 4) / 2 < c
      · rw [if_pos (show p + 4 ≤ x ∧ x < p + 4 + 2 * c ∧ (x - p) % 2 = 0 by omega), if_pos r, if_neg (show ¬ (x - p - 4) / 2 = c by omega), if_pos t]
      · rw [if_neg (show ¬ (p + 4 ≤ x ∧ x < p + 4 + 2 * c ∧ (x - p) % 2 = 0) by omega), if_pos r, if_neg (show ¬ (x - p - 4) / 2 = c by omega), if_neg t, show p + 4 + 2 * ((x - p - 4) / 2) = x by omega]
    · rw [if_neg (show ¬ (p + 4 ≤ x ∧ x < p + 4 + 2 * c ∧ (x - p) % 2 = 0) by omega), if_neg r]
theorem mD_elim (m : jM g n V X h) {db s al be : Nat} (kp : cK p = 13) (hp : p ≠ 80) (hd : X p 2 = (db : Int)) (hdb : db < cL (p + 3)) (hs : db + s < 13) (hF : ∀ e, e < 13 → (V (80 + 4 + 2 * e)).natAbs ≤ al) (hB : ∀ e, e < cL (p + 3) → (V (p + 4 + 2 * e)).natAbs ≤ be) (hfit : 2 * (al * be) < jB ^ 236) (hc1 : al < jB ^ 1500) (hc2 : be < jB ^ 1500) : mj_Ok (D + 3) 17 [.ref 19, .ref 80, .ref p, .int (jn (s : Int))] h (fun r => ∃ (z1 z2 : Int) (h2 : mj_H), jM g n (pfl (scr V z1 z2) 80 (elw (pco V 80) (pco V p) db s) 13) X h2 ∧ r = (.inl none, h2)) := by
  have hbp := (mK_p kp).2.2.1
  have h83 : cL (80 + 3) = 13 := mK_z.2.2.1
  refine mj_Ok.of (M := mj_m17) rfl rfl rfl ?_
  iterate 2 refine mj_T.pl rfl rfl rfl rfl ?_
  refine mT_get (v := .int (jn ((db : Nat) : Int))) m 13 kp (by decide) rfl (congrArg (fun z : Int => some (Value.int (jn z))) (hd)) ?_
  refine mj_T.pl rfl rfl rfl rfl ?_
  refine mj_T.iadd (a := ((db : Nat) : Int)) (b := ((s : Nat) : Int)) rfl ?_
  rw [show (((db : Nat) : Int) + ((s : Nat) : Int)) = (((db + s) : Nat) : Int) by omega]
  refine mj_T.call rfl rfl (Nat.le_of_ble_eq_true rfl) (Nat.le_of_ble_eq_true rfl) (mV_of m 13 cq_d80 (by decide) rfl (by decide) rfl _) rfl (mj_Ok.up (by omega) (mP_at (D := 0) m cq_d80 (e := (db + s)) (by omega))) (fun v g1 hq => ?_) (fun i g1 hq => ?_)
  rotate_left
  · cases hq
  cases hq
  refine mj_T.eq (pc2 := 10) (st2 := [.ref (80 + 4 + 2 * (db + s))]) ?_ rfl rfl rfl rfl
  refine mj_T.pl (loc' := [some (.ref 19), some (.ref 80), some (.ref p), some (.int (jn ((s : Nat) : Int))), some (.ref (80 + 4 + 2 * (db + s))), none, none, none]) rfl rfl rfl rfl ?_
  refine mj_T.pl rfl rfl rfl rfl ?_
  refine mj_T.call rfl rfl (Nat.le_of_ble_eq_true rfl) (Nat.le_of_ble_eq_true rfl) (mV_of m 13 kp (by decide) rfl (by decide) rfl _) rfl (mj_Ok.up (by omega) (mP_lead (D := 0) m kp hd hdb)) (fun v g2 hq => ?_) (fun i g2 hq => ?_)
  rotate_left
  · cases hq
  cases hq
  refine mj_T.eq (pc2 := 16) (st2 := [.ref (p + 4 + 2 * db)]) ?_ rfl rfl rfl rfl
  refine mj_T.pl (loc' := [some (.ref 19), some (.ref 80), some (.ref p), some (.int (jn ((s : Nat) : Int))), some (.ref (80 + 4 + 2 * (db + s))), some (.ref (p + 4 + 2 * db)), none, none]) rfl rfl rfl rfl ?_
  refine mj_T.pl rfl rfl rfl rfl ?_
  refine mj_T.pl (loc' := [some (.ref 19), some (.ref 80), some (.ref p), some (.int (jn ((s : Nat) : Int))), some (.ref (80 + 4 + 2 * (db + s))), some (.ref (p + 4 + 2 * db)), some (.int (jn 0)), none]) rfl rfl rfl rfl ?_
  refine mD_elim_loop kp hp hd hdb hs hF hB hfit hc1 hc2 (fun z1 z2 l7 h1 m1 => ?_) (db + s) 0 (by omega) (V 164) (V 166) none _ (m.to (by rw [pfl_zero, scr_self]) rfl)
  refine mj_T.pl rfl rfl rfl rfl ?_
  refine jT.lc 0 rfl rfl ?_
  refine mj_T.call rfl rfl (Nat.le_of_ble_eq_true rfl) (Nat.le_of_ble_eq_true rfl) (mV_of m1 18 ((mK_p cq_d80).2.2.2 _ (by omega)) (by decide) rfl (by decide) rfl _) rfl (mj_Ok.up (by omega) (mW_setLong (D := 0) (v := ((0 : Nat) : Int)) m1 ((mK_p cq_d80).2.2.2 _ (by omega)) jR_0 (by rw [jnl_0]; omega))) (fun v g61 hq => ?_) (fun i g61 hq => ?_)
  rotate_left
  · obtain ⟨_, _, hq⟩ := hq; cases hq
  obtain ⟨_, m62, hq⟩ := hq
  cases hq
  refine mj_T.eq (pc2 := 107) (st2 := []) ?_ rfl rfl rfl rfl
  refine mj_T.ret rfl rfl rfl ⟨z1, z2, _, m62.to ?_ rfl, rfl⟩
  rw [pfl_jvu2 hs]
  refine pfl_congr (fun e he => ?_)
  by_cases q : e = db + s
  · rw [if_pos q, q]
    unfold elw
    rw [if_pos (Nat.le_refl _), if_neg (by omega), Nat.add_sub_cancel]
    show _ = ((0 : Nat) : Int)
    rw [Int.mul_comm]
    exact Int.sub_self _
  · rw [if_neg q]
    by_cases r : e < db + s
    · rw [if_pos r]
    · rw [if_neg r, scr_off _ _ _ (by omega) (by omega)]
      unfold elw
      rw [if_neg (by omega)]
      rfl
end MEL
/-! The desk of the class, exactly: a product. -/
theorem zs_head (f : Nat → Int) : ∀ n, zs (n + 1) f = f 0 + zs n (fun i => f (i + 1))
  | 0 => by
    show 0 + f 0 = f 0 + 0
    omega
  | n + 1 => by
    show zs (n + 1) f + f (n + 1) = f 0 + (zs n (fun i => f (i + 1)) + f (n + 1))
    rw [zs_head f n]
    omega
theorem zs_more {f : Nat → Int} {n : Nat} : ∀ d, (∀ i, n ≤ i → i < n + d → f i = 0) → zs (n + d) f = zs n f
  | 0, _ => rfl
  | d + 1, h => by
    show zs (n + d) f + f (n + d) = zs n f
    rw [zs_more d (fun i h1 h2 => h i h1 (by omega)), h (n + d) (by omega) (by omega), Int.add_zero]
theorem zs_abs {f : Nat → Int} {M : Nat} : ∀ n, (∀ i, i < n → (f i).natAbs ≤ M) → (zs n f).natAbs ≤ n * M
  | 0, _ => by
    show (0 : Int).natAbs ≤ _
    omega
  | n + 1, h => by
    have h1 := zs_abs n (fun i hi => h i (by omega))
    have h2 := h n (by omega)
    show (zs n f + f n).natAbs ≤ _
    rw [Nat.succ_mul]
    omega
theorem pz_c_zs : ∀ (e : Nat) (A B : pz_P), pz_c e A B = zs (e + 1) (fun u => A u * B (e - u))
  | 0, A, B => by
    show A 0 * B 0 = 0 + A 0 * B 0
    omega
  | e + 1, A, B => by
    rw [zs_head]
    show A 0 * B (e + 1) + pz_c e (pz_tl A) B = A 0 * B (e + 1 - 0) + zs (e + 1) (fun i => A (i + 1) * B (e + 1 - (i + 1)))
    rw [pz_c_zs e (pz_tl A) B]
    congr 1
    exact zs_congr (fun i hi => by
      show A (i + 1) * B (e - i) = _
      rw [show e + 1 - (i + 1) = e - i by omega])
/-- what a product has become so far -/
def tw (A B : Nat → Int) (i j : Nat) : Nat → Int := fun e => zs i (fun u => if u ≤ e then A u * B (e - u) else 0) + if i ≤ e ∧ e - i < j then A i * B (e - i) else 0
theorem tw_0 (A B : Nat → Int) : tw A B 0 0 = fun _ => 0 := funext fun e => by
  unfold tw
  rw [if_neg (by omega)]
  rfl
theorem tw_put (A B : Nat → Int) (i j : Nat) : jvu (tw A B i j) (i + j) (tw A B i j (i + j) + 1 * (A i * B j)) = tw A B i (j + 1) := funext fun e => by
  simp only [jvu, tw]
  by_cases c : e = i + j
  · rw [if_pos c, c, if_neg (by omega), if_pos (by omega), Nat.add_sub_cancel_left]
    omega
  · rw [if_neg c]
    by_cases d : i ≤ e ∧ e - i < j
    · rw [if_pos d, if_pos (by omega)]
    · rw [if_neg d, if_neg (by omega)]
theorem tw_next {A B : Nat → Int} {i j : Nat} (h : ∀ x, j ≤ x → A i * B x = 0) : tw A B i j = tw A B (i + 1) 0 := funext fun e => by
  unfold tw
  show _ = (zs i _ + if i ≤ e then A i * B (e - i) else 0) + _
  rw [if_neg (show ¬ (i + 1 ≤ e ∧ e - (i + 1) < 0) by omega), Int.add_zero]
  by_cases c : i ≤ e
  · rw [if_pos c]
    by_cases d : e - i < j
    · rw [if_pos ⟨c, d⟩]
    · rw [if_neg (fun q => d q.2), h (e - i) (by omega)]
  · rw [if_neg c, if_neg (fun q => c q.1)]
theorem tw_abs {A B : Nat → Int} {al be : Nat} (hA : ∀ i, (A i).natAbs ≤ al) (hB : ∀ i, (B i).natAbs ≤ be) (i j e : Nat) : (tw A B i j e).natAbs ≤ (i + 1) * (al * be) := by
  unfold tw
  have p : ∀ u v, (A u * B v).natAbs ≤ al * be := fun u v => by
    rw [Int.natAbs_mul]
    exact Nat.mul_le_mul (hA u) (hB v)
  have h1 := zs_abs (f := fun u => if u ≤ e then A u * B (e - u) else 0) (M := al * be) i (fun u _ => by
    show (if u ≤ e then A u * B (e - u) else 0).natAbs ≤ _
    split
    · exact p _ _
    · exact Nat.zero_le _)
  rw [Nat.succ_mul]
  have h2 : (if i ≤ e ∧ e - i < j then A i * B (e - i) else 0).natAbs ≤ al * be := by
    split
    · exact p _ _
    · exact Nat.zero_le _
  omega
theorem tw_end {A B : Nat → Int} {da : Nat} (hA : ∀ i, da ≤ i → A i = 0) : tw A B da 0 = pz_mul A B := funext fun e => by
  unfold tw
  rw [if_neg (by omega), Int.add_zero]
  show _ = pz_c e A B
  rw [pz_c_zs]
  have e1 : zs (e + 1) (fun u => A u * B (e - u)) = zs (e + 1) (fun u => if u ≤ e then A u * B (e - u) else 0) := zs_congr (fun u hu => by rw [if_pos (by omega)])
  rw [e1]
  rcases Nat.le_total da (e + 1) with c | c
  · have h1 := zs_more (f := fun u => if u ≤ e then A u * B (e - u) else 0) (n := da) (e + 1 - da) (fun i h1 h2 => by
      show (if i ≤ e then A i * B (e - i) else 0) = 0
      rw [hA i h1, Int.zero_mul]
      split <;> rfl)
    rw [show da + (e + 1 - da) = e + 1 by omega] at h1
    exact h1.symm
  · have h1 := zs_more (f := fun u => if u ≤ e then A u * B (e - u) else 0) (n := e + 1) (da - (e + 1)) (fun i h1 h2 => if_neg (by omega))
    rw [show e + 1 + (da - (e + 1)) = da by omega] at h1
    exact h1
theorem pcs_in {V : Nat → Int} {o i : Nat} (h : i < cL (o + 3)) : pcs V o i = V (o + 4 + 2 * i) := if_pos h
theorem pcs_out {V : Nat → Int} {o i : Nat} (h : ¬ i < cL (o + 3)) : pcs V o i = 0 := if_neg h
section MTI
variable {g h : mj_H} {n D t : Nat} {V : Nat → Int} {X : Nat → Nat → Int}
theorem mD_times_in {da db al be c i : Nat} (kt : cK t = 13) (ht : t = 80 ∨ t = 110) (h1 : X 20 2 = (da : Int) - 1) (h2 : X 50 2 = (db : Int) - 1) (hda : da ≤ 13) (hdb : db ≤ 13) (hzb : ∀ i, db ≤ i → i < 13 → V (50 + 4 + 2 * i) = 0) (hfi : da = 0 ∨ db = 0 ∨ da + db ≤ cL (t + 3) + 1) (hA : ∀ i, (pcs V 20 i).natAbs ≤ al) (hB : ∀ i, (pcs V 50 i).natAbs ≤ be) (hc : c ≤ 240) (hcap : ∀ e, e < cL (t + 3) → c ≤ cL (t + 4 + 2 * e + 1)) (hfit : 13 * (al * be) < jB ^ c) (hc1 : al < jB ^ 1500) (hc2 : be < jB ^ 1500) (hi : i < da) (hn : V (20 + 4 + 2 * i) ≠ 0) {Q : mj_R → Prop} (hend : ∀ (z1 z2 : Int) (h : mj_H), jM g n (pfl (scr V z1 z2) t (tw (pcs V 20) (pcs V 50) i db) (cL (t + 3))) (xup X t 2 (-1)) h → mj_T (D + 2) mj_m14 114 [some (.ref 19), some (.ref t), some (.ref 20), some (.ref 50), some (.int (jn (i : Int))), some (.int (jn (db : Int)))] [] h Q) : ∀ k j, j + k = db → ∀ (z1 z2 : Int) (h : mj_H), jM g n (pfl (scr V z1 z2) t (tw (pcs V 20) (pcs V 50) i j) (cL (t + 3))) (xup X t 2 (-1)) h → mj_T (D + 2) mj_m14 51 [some (.ref 19), some (.ref t), some (.ref 20), some (.ref 50), some (.int (jn (i : Int))), some (.int (jn (j : Int)))] [] h Q
  | 0, j, hj, z1, z2, h, m => by
    have hbt := (mK_p kt).2.2.1
    have p20 : cL (20 + 3) = 13 := mK_z.1
    have p50 : cL (50 + 3) = 13 := mK_z.2.1
    have c1 : cL (164 + 1) = 240 := mK_z.2.2.2.2.2.2.2.1
    have hpt := mP_pos kt
    have hft := mP_far kt cq_d20 (by omega)
    have hfu := mP_far kt cq_d50 (by omega)
    rw [p20] at hft
    rw [p50] at hfu
    iterate 2 refine mj_T.pl rfl rfl rfl rfl ?_
    refine mT_get (v := .int (jn ((db : Nat) - 1 : Int))) m 13 cq_d50 (by decide) rfl (congrArg (fun z : Int => some (Value.int (jn z))) ((xup_ne X (-1) (Or.inl (by omega))).trans h2)) ?_
    refine mj_T.icmp (a := ((j : Nat) : Int)) (b := ((db : Nat) - 1 : Int)) rfl ⟨by omega, by omega⟩ ⟨by omega, by omega⟩ (fun c1 => ?_) (fun c1 => ?_)
    · simp only [jc, Bool.not_eq_true', Bool.not_eq_false', decide_eq_true_eq, decide_eq_false_iff_not] at c1
      rw [show j = db by omega] at m ⊢
      exact hend z1 z2 _ m
    · exfalso
      simp only [jc, Bool.not_eq_true', Bool.not_eq_false', decide_eq_true_eq, decide_eq_false_iff_not] at c1
      omega
  | k + 1, j, hj, z1, z2, h, m => by
    have hbt := (mK_p kt).2.2.1
    have p20 : cL (20 + 3) = 13 := mK_z.1
    have p50 : cL (50 + 3) = 13 := mK_z.2.1
    have c1 : cL (164 + 1) = 240 := mK_z.2.2.2.2.2.2.2.1
    have hpt := mP_pos kt
    have hft := mP_far kt cq_d20 (by omega)
    have hfu := mP_far kt cq_d50 (by omega)
    rw [p20] at hft
    rw [p50] at hfu
    have a1 := Nat.mul_le_mul (hA i) (hB j)
    rw [← Int.natAbs_mul, pcs_in (by omega), pcs_in (by omega)] at a1
    have hcp := hcap (i + j) (by omega)
    have hpr : jnl (V (20 + 4 + 2 * i) * V (50 + 4 + 2 * j)).natAbs ≤ cL (164 + 1) := Nat.le_trans (jnl_B a1 (m := c) (by omega)) (by omega)
    have hpt1 : jnl (V (20 + 4 + 2 * i) * V (50 + 4 + 2 * j)).natAbs ≤ cL (t + 4 + 2 * (i + j) + 1) := Nat.le_trans (jnl_B a1 (m := c) (by omega)) hcp
    have hsm : jnl (tw (pcs V 20) (pcs V 50) i j (i + j) + 1 * (V (20 + 4 + 2 * i) * V (50 + 4 + 2 * j))).natAbs ≤ cL (t + 4 + 2 * (i + j) + 1) := by
      have a2 := tw_abs hA hB i (j + 1) (i + j)
      rw [← tw_put, jvu_at, pcs_in (by omega), pcs_in (by omega)] at a2
      have a3 : (i + 1) * (al * be) ≤ 13 * (al * be) := Nat.mul_le_mul_right _ (by omega)
      exact Nat.le_trans (jnl_B (al := 13 * (al * be)) (by omega) hfit) hcp
    iterate 2 refine mj_T.pl rfl rfl rfl rfl ?_
    refine mT_get (v := .int (jn ((db : Nat) - 1 : Int))) m 13 cq_d50 (by decide) rfl (congrArg (fun z : Int => some (Value.int (jn z))) ((xup_ne X (-1) (Or.inl (by omega))).trans h2)) ?_
    refine mj_T.icmp (a := ((j : Nat) : Int)) (b := ((db : Nat) - 1 : Int)) rfl ⟨by omega, by omega⟩ ⟨by omega, by omega⟩ (fun c1 => ?_) (fun c1 => ?_)
    · exfalso
      simp only [jc, Bool.not_eq_true', Bool.not_eq_false', decide_eq_true_eq, decide_eq_false_iff_not] at c1
      omega
    · simp only [jc, Bool.not_eq_true', Bool.not_eq_false', decide_eq_true_eq, decide_eq_false_iff_not] at c1
      iterate 2 refine mj_T.pl rfl rfl rfl rfl ?_
      refine mj_T.call rfl rfl (Nat.le_of_ble_eq_true rfl) (Nat.le_of_ble_eq_true rfl) (mV_of m 13 cq_d20 (by decide) rfl (by decide) rfl _) rfl (mj_Ok.up (by omega) (mP_at (D := 0) m cq_d20 (e := i) (by omega))) (fun v g2 hq => ?_) (fun i g2 hq => ?_)
      rotate_left
      · cases hq
      cases hq
      refine mj_T.eq (pc2 := 66) (st2 := [.ref (20 + 4 + 2 * i)]) ?_ rfl rfl rfl rfl
      refine mT_sg m ((mK_p cq_d20).2.2.2 _ (by omega)) rfl ?_ (hcl := by rw [lk_off (a := 20 + 4 + 2 * i) (by omega) (by omega) (by omega), ← pcs_in (V := V) (o := 20) (i := i) (by omega)]; exact jnl_B (hA i) hc1)
      refine mj_T.if0 (a := (jsg ((pfl (scr V z1 z2) t (tw (pcs V 20) (pcs V 50) i j) (cL (t + 3))) (20 + 4 + 2 * i)))) rfl (jsg_r _) (fun c3 => ?_) (fun c3 => ?_)
      · exfalso
        simp only [jc, Bool.not_eq_true', Bool.not_eq_false', decide_eq_true_eq, decide_eq_false_iff_not] at c3
        rw [lk_off (a := 20 + 4 + 2 * i) (by omega) (by omega) (by omega)] at c3
        exact hn (jsg_z0.mp c3)
      · simp only [jc, Bool.not_eq_true', Bool.not_eq_false', decide_eq_true_eq, decide_eq_false_iff_not] at c3
        refine mj_T.pl rfl rfl rfl rfl ?_
        refine mT_get m 11 cq_d19 (by decide) rfl rfl ?_
        iterate 2 refine mj_T.pl rfl rfl rfl rfl ?_
        refine mj_T.call rfl rfl (Nat.le_of_ble_eq_true rfl) (Nat.le_of_ble_eq_true rfl) (mV_of m 13 cq_d20 (by decide) rfl (by decide) rfl _) rfl (mj_Ok.up (by omega) (mP_at (D := 0) m cq_d20 (e := i) (by omega))) (fun v g4 hq => ?_) (fun i g4 hq => ?_)
        rotate_left
        · cases hq
        cases hq
        refine mj_T.eq (pc2 := 82) (st2 := [.ref (20 + 4 + 2 * i), .ref 164]) ?_ rfl rfl rfl rfl
        iterate 2 refine mj_T.pl rfl rfl rfl rfl ?_
        refine mj_T.call rfl rfl (Nat.le_of_ble_eq_true rfl) (Nat.le_of_ble_eq_true rfl) (mV_of m 13 cq_d50 (by decide) rfl (by decide) rfl _) rfl (mj_Ok.up (by omega) (mP_at (D := 0) m cq_d50 (e := j) (by omega))) (fun v g5 hq => ?_) (fun i g5 hq => ?_)
        rotate_left
        · cases hq
        cases hq
        refine mj_T.eq (pc2 := 88) (st2 := [.ref (50 + 4 + 2 * j), .ref (20 + 4 + 2 * i), .ref 164]) ?_ rfl rfl rfl rfl
        refine mj_T.call rfl rfl (Nat.le_of_ble_eq_true rfl) (Nat.le_of_ble_eq_true rfl) (mV_of m 18 cq_d164 (by decide) rfl (by decide) rfl _) rfl (mj_Ok.up (by omega) (mW_setProduct (D := 0) m cq_d164 ((mK_p cq_d20).2.2.2 _ (by omega)) ((mK_p cq_d50).2.2.2 _ (by omega)) (by omega) (by omega) (by omega) (by rw [lk_off (a := 20 + 4 + 2 * i) (by omega) (by omega) (by omega), lk_off (a := 50 + 4 + 2 * j) (by omega) (by omega) (by omega)]; exact hpr) (hca := by rw [lk_off (a := 20 + 4 + 2 * i) (by omega) (by omega) (by omega), ← pcs_in (V := V) (o := 20) (i := i) (by omega)]; exact jnl_B (hA i) hc1) (hcb := by rw [lk_off (a := 50 + 4 + 2 * j) (by omega) (by omega) (by omega), ← pcs_in (V := V) (o := 50) (i := j) (by omega)]; exact jnl_B (hB j) hc2))) (fun v g6 hq => ?_) (fun i g6 hq => ?_)
        rotate_left
        · obtain ⟨_, _, hq⟩ := hq; cases hq
        obtain ⟨_, m7, hq⟩ := hq
        cases hq
        rw [lk_off (a := 20 + 4 + 2 * i) (by omega) (by omega) (by omega), lk_off (a := 50 + 4 + 2 * j) (by omega) (by omega) (by omega), lk_p1 (by omega)] at m7
        refine mj_T.eq (pc2 := 91) (st2 := []) ?_ rfl rfl rfl rfl
        iterate 3 refine mj_T.pl rfl rfl rfl rfl ?_
        refine mj_T.iadd (a := ((i : Nat) : Int)) (b := ((j : Nat) : Int)) rfl ?_
        rw [show (((i : Nat) : Int) + ((j : Nat) : Int)) = (((i + j) : Nat) : Int) by omega]
        refine mj_T.call rfl rfl (Nat.le_of_ble_eq_true rfl) (Nat.le_of_ble_eq_true rfl) (mV_of m7 13 kt (by decide) rfl (by decide) rfl _) rfl (mj_Ok.up (by omega) (mP_at (D := 0) m7 kt (e := (i + j)) (by omega))) (fun v g8 hq => ?_) (fun i g8 hq => ?_)
        rotate_left
        · cases hq
        cases hq
        refine mj_T.eq (pc2 := 100) (st2 := [.ref (t + 4 + 2 * (i + j))]) ?_ rfl rfl rfl rfl
        refine mj_T.pl rfl rfl rfl rfl ?_
        refine mT_get m7 11 cq_d19 (by decide) rfl rfl ?_
        refine mj_T.pl rfl rfl rfl rfl ?_
        refine mj_T.call rfl rfl (Nat.le_of_ble_eq_true rfl) (Nat.le_of_ble_eq_true rfl) (mV_of m7 18 ((mK_p kt).2.2.2 _ (by omega)) (by decide) rfl (by decide) rfl _) rfl (mj_Ok.up (by omega) (mW_plus (D := 0) (f := 1) m7 ((mK_p kt).2.2.2 _ (by omega)) cq_d164 (by omega) (Or.inl rfl) (by rw [lk_1 (by omega)]; exact hpt1) (by rw [lk_1 (by omega), pfl_at _ _ _ (by omega)]; exact hsm))) (fun v g9 hq => ?_) (fun i g9 hq => ?_)
        rotate_left
        · obtain ⟨_, _, hq⟩ := hq; cases hq
        obtain ⟨_, m10, hq⟩ := hq
        cases hq
        rw [lk_1 (by omega), pfl_at _ _ _ (by omega)] at m10
        refine mj_T.eq (pc2 := 108) (st2 := []) ?_ rfl rfl rfl rfl
        refine mj_T.iinc rfl rfl ?_
        rw [show ((j : Nat) : Int) + 1 = ((j + 1 : Nat) : Int) by omega]
        refine mj_T.eq (loc2 := [some (.ref 19), some (.ref t), some (.ref 20), some (.ref 50), some (.int (jn ((i : Nat) : Int))), some (.int (jn (((j + 1) : Nat) : Int)))]) ?_ rfl rfl rfl rfl
        refine mj_T.pl rfl rfl rfl rfl ?_
        refine mD_times_in kt ht h1 h2 hda hdb hzb hfi hA hB hc hcap hfit hc1 hc2 hi hn hend k (j + 1) (by omega) (V (20 + 4 + 2 * i) * V (50 + 4 + 2 * j)) z2 _ (m10.to ?_ rfl)
        rw [pfl_upd (by omega), ← tw_put, pcs_in (by omega), pcs_in (by omega)]
theorem mD_times_out {da db al be c : Nat} (kt : cK t = 13) (ht : t = 80 ∨ t = 110) (h1 : X 20 2 = (da : Int) - 1) (h2 : X 50 2 = (db : Int) - 1) (hda : da ≤ 13) (hdb : db ≤ 13) (hzb : ∀ i, db ≤ i → i < 13 → V (50 + 4 + 2 * i) = 0) (hfi : da = 0 ∨ db = 0 ∨ da + db ≤ cL (t + 3) + 1) (hA : ∀ i, (pcs V 20 i).natAbs ≤ al) (hB : ∀ i, (pcs V 50 i).natAbs ≤ be) (hc : c ≤ 240) (hcap : ∀ e, e < cL (t + 3) → c ≤ cL (t + 4 + 2 * e + 1)) (hfit : 13 * (al * be) < jB ^ c) (hc1 : al < jB ^ 1500) (hc2 : be < jB ^ 1500) {Q : mj_R → Prop} (hend : ∀ (z1 z2 : Int) (l5 : Option Value) (h : mj_H), jM g n (pfl (scr V z1 z2) t (tw (pcs V 20) (pcs V 50) da 0) (cL (t + 3))) (xup X t 2 (-1)) h → mj_T (D + 2) mj_m14 120 [some (.ref 19), some (.ref t), some (.ref 20), some (.ref 50), some (.int (jn (da : Int))), l5] [] h Q) : ∀ k i, i + k = da → ∀ (z1 z2 : Int) (l5 : Option Value) (h : mj_H), jM g n (pfl (scr V z1 z2) t (tw (pcs V 20) (pcs V 50) i 0) (cL (t + 3))) (xup X t 2 (-1)) h → mj_T (D + 2) mj_m14 39 [some (.ref 19), some (.ref t), some (.ref 20), some (.ref 50), some (.int (jn (i : Int))), l5] [] h Q
  | 0, i, hi, z1, z2, l5, h, m => by
    have hbt := (mK_p kt).2.2.1
    have p20 : cL (20 + 3) = 13 := mK_z.1
    have p50 : cL (50 + 3) = 13 := mK_z.2.1
    have c1 : cL (164 + 1) = 240 := mK_z.2.2.2.2.2.2.2.1
    have hpt := mP_pos kt
    have hft := mP_far kt cq_d20 (by omega)
    have hfu := mP_far kt cq_d50 (by omega)
    rw [p20] at hft
    rw [p50] at hfu
    iterate 2 refine mj_T.pl rfl rfl rfl rfl ?_
    refine mT_get (v := .int (jn ((da : Nat) - 1 : Int))) m 13 cq_d20 (by decide) rfl (congrArg (fun z : Int => some (Value.int (jn z))) ((xup_ne X (-1) (Or.inl (by omega))).trans h1)) ?_
    refine mj_T.icmp (a := ((i : Nat) : Int)) (b := ((da : Nat) - 1 : Int)) rfl ⟨by omega, by omega⟩ ⟨by omega, by omega⟩ (fun c1 => ?_) (fun c1 => ?_)
    · simp only [jc, Bool.not_eq_true', Bool.not_eq_false', decide_eq_true_eq, decide_eq_false_iff_not] at c1
      rw [show i = da by omega] at m ⊢
      exact hend z1 z2 l5 _ m
    · exfalso
      simp only [jc, Bool.not_eq_true', Bool.not_eq_false', decide_eq_true_eq, decide_eq_false_iff_not] at c1
      omega
  | k + 1, i, hi, z1, z2, l5, h, m => by
    have hbt := (mK_p kt).2.2.1
    have p20 : cL (20 + 3) = 13 := mK_z.1
    have p50 : cL (50 + 3) = 13 := mK_z.2.1
    have c1 : cL (164 + 1) = 240 := mK_z.2.2.2.2.2.2.2.1
    have hpt := mP_pos kt
    have hft := mP_far kt cq_d20 (by omega)
    have hfu := mP_far kt cq_d50 (by omega)
    rw [p20] at hft
    rw [p50] at hfu
    iterate 2 refine mj_T.pl rfl rfl rfl rfl ?_
    refine mT_get (v := .int (jn ((da : Nat) - 1 : Int))) m 13 cq_d20 (by decide) rfl (congrArg (fun z : Int => some (Value.int (jn z))) ((xup_ne X (-1) (Or.inl (by omega))).trans h1)) ?_
    refine mj_T.icmp (a := ((i : Nat) : Int)) (b := ((da : Nat) - 1 : Int)) rfl ⟨by omega, by omega⟩ ⟨by omega, by omega⟩ (fun c1 => ?_) (fun c1 => ?_)
    · exfalso
      simp only [jc, Bool.not_eq_true', Bool.not_eq_false', decide_eq_true_eq, decide_eq_false_iff_not] at c1
      omega
    · simp only [jc, Bool.not_eq_true', Bool.not_eq_false', decide_eq_true_eq, decide_eq_false_iff_not] at c1
      refine mj_T.pl rfl rfl rfl rfl ?_
      refine mj_T.pl (loc' := [some (.ref 19), some (.ref t), some (.ref 20), some (.ref 50), some (.int (jn ((i : Nat) : Int))), some (.int (jn 0))]) rfl rfl rfl rfl ?_
      by_cases hn : V (20 + 4 + 2 * i) = 0
      · skip
        iterate 2 refine mj_T.pl rfl rfl rfl rfl ?_
        refine mT_get (v := .int (jn ((db : Nat) - 1 : Int))) m 13 cq_d50 (by decide) rfl (congrArg (fun z : Int => some (Value.int (jn z))) ((xup_ne X (-1) (Or.inl (by omega))).trans h2)) ?_
        refine mj_T.icmp (a := 0) (b := ((db : Nat) - 1 : Int)) rfl ⟨by omega, by omega⟩ ⟨by omega, by omega⟩ (fun c41 => ?_) (fun c41 => ?_)
        · simp only [jc, Bool.not_eq_true', Bool.not_eq_false', decide_eq_true_eq, decide_eq_false_iff_not] at c41
          refine mj_T.iinc rfl rfl ?_
          rw [show ((i : Nat) : Int) + 1 = ((i + 1 : Nat) : Int) by omega]
          refine mj_T.eq (loc2 := [some (.ref 19), some (.ref t), some (.ref 20), some (.ref 50), some (.int (jn (((i + 1) : Nat) : Int))), some (.int (jn 0))]) ?_ rfl rfl rfl rfl
          refine mj_T.pl rfl rfl rfl rfl ?_
          refine mD_times_out kt ht h1 h2 hda hdb hzb hfi hA hB hc hcap hfit hc1 hc2 hend k (i + 1) (by omega) z1 z2 _ _ (m.to ?_ rfl)
          rw [← tw_next (j := 0) (fun x hx => ?_)]
          rw [pcs_in (by omega), hn, Int.zero_mul]
        · simp only [jc, Bool.not_eq_true', Bool.not_eq_false', decide_eq_true_eq, decide_eq_false_iff_not] at c41
          iterate 2 refine mj_T.pl rfl rfl rfl rfl ?_
          refine mj_T.call rfl rfl (Nat.le_of_ble_eq_true rfl) (Nat.le_of_ble_eq_true rfl) (mV_of m 13 cq_d20 (by decide) rfl (by decide) rfl _) rfl (mj_Ok.up (by omega) (mP_at (D := 0) m cq_d20 (e := i) (by omega))) (fun v g42 hq => ?_) (fun i g42 hq => ?_)
          rotate_left
          · cases hq
          cases hq
          refine mj_T.eq (pc2 := 66) (st2 := [.ref (20 + 4 + 2 * i)]) ?_ rfl rfl rfl rfl
          refine mT_sg m ((mK_p cq_d20).2.2.2 _ (by omega)) rfl ?_ (hcl := by rw [lk_off (a := 20 + 4 + 2 * i) (by omega) (by omega) (by omega), ← pcs_in (V := V) (o := 20) (i := i) (by omega)]; exact jnl_B (hA i) hc1)
          refine mj_T.if0 (a := (jsg ((pfl (scr V z1 z2) t (tw (pcs V 20) (pcs V 50) i 0) (cL (t + 3))) (20 + 4 + 2 * i)))) rfl (jsg_r _) (fun c43 => ?_) (fun c43 => ?_)
          · simp only [jc, Bool.not_eq_true', Bool.not_eq_false', decide_eq_true_eq, decide_eq_false_iff_not] at c43
            refine mj_T.iinc rfl rfl ?_
            rw [show ((i : Nat) : Int) + 1 = ((i + 1 : Nat) : Int) by omega]
            refine mj_T.eq (loc2 := [some (.ref 19), some (.ref t), some (.ref 20), some (.ref 50), some (.int (jn (((i + 1) : Nat) : Int))), some (.int (jn 0))]) ?_ rfl rfl rfl rfl
            refine mj_T.pl rfl rfl rfl rfl ?_
            refine mD_times_out kt ht h1 h2 hda hdb hzb hfi hA hB hc hcap hfit hc1 hc2 hend k (i + 1) (by omega) z1 z2 _ _ (m.to ?_ rfl)
            rw [← tw_next (j := 0) (fun x hx => ?_)]
            rw [pcs_in (by omega), hn, Int.zero_mul]
          · exfalso
            simp only [jc, Bool.not_eq_true', Bool.not_eq_false', decide_eq_true_eq, decide_eq_false_iff_not] at c43
            rw [lk_off (a := 20 + 4 + 2 * i) (by omega) (by omega) (by omega)] at c43
            exact c43 (jsg_z0.mpr hn)
      · refine mD_times_in kt ht h1 h2 hda hdb hzb hfi hA hB hc hcap hfit hc1 hc2 (by omega) hn (fun y1 y2 h3 m3 => ?_) db 0 (by omega) z1 z2 _ m
        refine mj_T.iinc rfl rfl ?_
        rw [show ((i : Nat) : Int) + 1 = ((i + 1 : Nat) : Int) by omega]
        refine mj_T.eq (loc2 := [some (.ref 19), some (.ref t), some (.ref 20), some (.ref 50), some (.int (jn (((i + 1) : Nat) : Int))), some (.int (jn ((db : Nat) : Int)))]) ?_ rfl rfl rfl rfl
        refine mj_T.pl rfl rfl rfl rfl ?_
        refine mD_times_out kt ht h1 h2 hda hdb hzb hfi hA hB hc hcap hfit hc1 hc2 hend k (i + 1) (by omega) y1 y2 _ _ (m3.to ?_ rfl)
        rw [← tw_next (j := db) (fun x hx => ?_)]
        by_cases q : x < 13
        · rw [pcs_in (o := 50) (by omega), hzb x hx q, Int.mul_zero]
        · rw [pcs_out (o := 50) (by omega), Int.mul_zero]
end MTI
/-! The desk of the class, exactly: products of rows. -/
theorem jB_15 {x m : Nat} (h : x < jB ^ m) (hm : m ≤ 1500) : x < jB ^ 1500 := Nat.lt_of_lt_of_le h (Nat.pow_le_pow_right (by decide) hm)
section MTJ
variable {g h : mj_H} {n D t : Nat} {V : Nat → Int} {X : Nat → Nat → Int}
theorem mD_times (m : jM g n V X h) {da db al be c : Nat} (kt : cK t = 13) (ht : t = 80 ∨ t = 110) (h1 : X 20 2 = (da : Int) - 1) (h2 : X 50 2 = (db : Int) - 1) (hda : da ≤ 13) (hdb : db ≤ 13) (hzb : ∀ i, db ≤ i → i < 13 → V (50 + 4 + 2 * i) = 0) (hA : ∀ i, (pcs V 20 i).natAbs ≤ al) (hB : ∀ i, (pcs V 50 i).natAbs ≤ be) (hc : c ≤ 240) (hcap : ∀ e, e < cL (t + 3) → c ≤ cL (t + 4 + 2 * e + 1)) (hfit : 13 * (al * be) < jB ^ c) (hc1 : al < jB ^ 1500) (hc2 : be < jB ^ 1500) (hza : ∀ i, da ≤ i → i < 13 → V (20 + 4 + 2 * i) = 0) : mj_Ok (D + 3) 14 [.ref 19, .ref t, .ref 20, .ref 50] h (fun r => ((da = 0 ∨ db = 0 ∨ da + db ≤ cL (t + 3) + 1) ∧ ∃ (z1 z2 : Int) (h2 : mj_H), jM g n (pfl (scr V z1 z2) t (pz_mul (pcs V 20) (pcs V 50)) (cL (t + 3))) (xup X t 2 ((fdg (pz_mul (pcs V 20) (pcs V 50)) (cL (t + 3)) : Int) - 1)) h2 ∧ r = (.inl (some (.int (jn 1))), h2)) ∨ (¬ (da = 0 ∨ db = 0 ∨ da + db ≤ cL (t + 3) + 1) ∧ ∃ h2 : mj_H, jM g n (pfl V t (fun _ => 0) (cL (t + 3))) (xup X t 2 (-1)) h2 ∧ r = (.inl (some (.int (jn 0))), h2))) := by
  have hbt := (mK_p kt).2.2.1
  have p20 : cL (20 + 3) = 13 := mK_z.1
  have p50 : cL (50 + 3) = 13 := mK_z.2.1
  have c1 : cL (164 + 1) = 240 := mK_z.2.2.2.2.2.2.2.1
  have hpt := mP_pos kt
  have hft := mP_far kt cq_d20 (by omega)
  have hfu := mP_far kt cq_d50 (by omega)
  rw [p20] at hft
  rw [p50] at hfu
  have hzA : ∀ i, da ≤ i → pcs V 20 i = 0 := fun i hi => by
    by_cases q : i < 13
    · rw [pcs_in (by omega), hza i hi q]
    · exact pcs_out (by omega)
  have hW : ∀ e, jnl (pz_mul (pcs V 20) (pcs V 50) e).natAbs ≤ 1500 := fun e => by
    have q1 := tw_abs hA hB da 0 e
    rw [tw_end (fun i hi => hzA i hi)] at q1
    have q2 : (da + 1) * (al * be) ≤ 14 * (al * be) := Nat.mul_le_mul_right _ (by omega)
    have q3 : jB ^ c ≤ jB ^ 240 := Nat.pow_le_pow_right (by decide) hc
    have q4 : jB ^ 240 * 2 ≤ jB ^ 240 * jB := Nat.mul_le_mul_left _ (by decide)
    exact jnl_B (al := 14 * (al * be)) (by omega) (jB_15 (m := 241) (by rw [Nat.pow_succ]; omega) (by decide))
  refine mj_Ok.of (M := mj_m14) rfl rfl rfl ?_
  refine mj_T.pl rfl rfl rfl rfl ?_
  refine mj_T.call rfl rfl (Nat.le_of_ble_eq_true rfl) (Nat.le_of_ble_eq_true rfl) (mV_of m 13 kt (by decide) rfl (by decide) rfl _) rfl (mj_Ok.up (by omega) (mP_clear (D := 0) m kt)) (fun v g1 hq => ?_) (fun i g1 hq => ?_)
  rotate_left
  · obtain ⟨_, _, hq⟩ := hq; cases hq
  obtain ⟨_, m2, hq⟩ := hq
  cases hq
  refine mj_T.eq (pc2 := 4) (st2 := []) ?_ rfl rfl rfl rfl
  have cont : (da = 0 ∨ db = 0 ∨ da + db ≤ cL (t + 3) + 1) → mj_T (D + 2) mj_m14 36 [some (.ref 19), some (.ref t), some (.ref 20), some (.ref 50), none, none] [] g1 (fun r => ((da = 0 ∨ db = 0 ∨ da + db ≤ cL (t + 3) + 1) ∧ ∃ (z1 z2 : Int) (h2 : mj_H), jM g n (pfl (scr V z1 z2) t (pz_mul (pcs V 20) (pcs V 50)) (cL (t + 3))) (xup X t 2 ((fdg (pz_mul (pcs V 20) (pcs V 50)) (cL (t + 3)) : Int) - 1)) h2 ∧ r = (.inl (some (.int (jn 1))), h2)) ∨ (¬ (da = 0 ∨ db = 0 ∨ da + db ≤ cL (t + 3) + 1) ∧ ∃ h2 : mj_H, jM g n (pfl V t (fun _ => 0) (cL (t + 3))) (xup X t 2 (-1)) h2 ∧ r = (.inl (some (.int (jn 0))), h2))) := by
    intro hfi
    refine mj_T.pl rfl rfl rfl rfl ?_
    refine mj_T.pl (loc' := [some (.ref 19), some (.ref t), some (.ref 20), some (.ref 50), some (.int (jn 0)), none]) rfl rfl rfl rfl ?_
    refine mD_times_out kt ht h1 h2 hda hdb hzb hfi hA hB hc hcap hfit hc1 hc2 (fun z1 z2 l5 h1 m1 => ?_) da 0 (by omega) (V 164) (V 166) _ _ (m2.to (by rw [scr_self, tw_0]) rfl)
    rw [tw_end (fun i hi => hzA i hi)] at m1
    refine mj_T.pl rfl rfl rfl rfl ?_
    refine mj_T.call rfl rfl (Nat.le_of_ble_eq_true rfl) (Nat.le_of_ble_eq_true rfl) (mV_of m1 13 kt (by decide) rfl (by decide) rfl _) rfl (mj_Ok.up (by omega) (mP_settle (D := 0) m1 kt (pcl_pfl (Nat.le_refl _) (fun e _ => hW e)))) (fun v g51 hq => ?_) (fun i g51 hq => ?_)
    rotate_left
    · obtain ⟨_, _, hq⟩ := hq; cases hq
    obtain ⟨_, m52, hq⟩ := hq
    cases hq
    refine mj_T.eq (pc2 := 124) (st2 := []) ?_ rfl rfl rfl rfl
    refine mj_T.pl rfl rfl rfl rfl ?_
    exact mj_T.ret rfl rfl rfl (Or.inl ⟨hfi, z1, z2, _, m52.to rfl (by rw [xup_xup, fdg_congr _ (fun i hi => pco_pfl i hi)]), rfl⟩)
  refine mj_T.pl rfl rfl rfl rfl ?_
  refine mT_get (v := .int (jn ((da : Nat) - 1 : Int))) m2 13 cq_d20 (by decide) rfl (congrArg (fun z : Int => some (Value.int (jn z))) ((xup_ne X (-1) (Or.inl (by omega))).trans h1)) ?_
  refine mj_T.if0 (a := ((da : Nat) - 1 : Int)) rfl ⟨by omega, by omega⟩ (fun c71 => ?_) (fun c71 => ?_)
  · simp only [jc, Bool.not_eq_true', Bool.not_eq_false', decide_eq_true_eq, decide_eq_false_iff_not] at c71
    exact cont (by omega)
  · simp only [jc, Bool.not_eq_true', Bool.not_eq_false', decide_eq_true_eq, decide_eq_false_iff_not] at c71
    refine mj_T.pl rfl rfl rfl rfl ?_
    refine mT_get (v := .int (jn ((db : Nat) - 1 : Int))) m2 13 cq_d50 (by decide) rfl (congrArg (fun z : Int => some (Value.int (jn z))) ((xup_ne X (-1) (Or.inl (by omega))).trans h2)) ?_
    refine mj_T.if0 (a := ((db : Nat) - 1 : Int)) rfl ⟨by omega, by omega⟩ (fun c72 => ?_) (fun c72 => ?_)
    · simp only [jc, Bool.not_eq_true', Bool.not_eq_false', decide_eq_true_eq, decide_eq_false_iff_not] at c72
      exact cont (by omega)
    · simp only [jc, Bool.not_eq_true', Bool.not_eq_false', decide_eq_true_eq, decide_eq_false_iff_not] at c72
      refine mj_T.pl rfl rfl rfl rfl ?_
      refine mT_get (v := .int (jn ((da : Nat) - 1 : Int))) m2 13 cq_d20 (by decide) rfl (congrArg (fun z : Int => some (Value.int (jn z))) ((xup_ne X (-1) (Or.inl (by omega))).trans h1)) ?_
      refine mj_T.pl rfl rfl rfl rfl ?_
      refine mT_get (v := .int (jn ((db : Nat) - 1 : Int))) m2 13 cq_d50 (by decide) rfl (congrArg (fun z : Int => some (Value.int (jn z))) ((xup_ne X (-1) (Or.inl (by omega))).trans h2)) ?_
      refine mj_T.iadd (a := ((da : Nat) - 1 : Int)) (b := ((db : Nat) - 1 : Int)) rfl ?_
      refine mj_T.pl rfl rfl rfl rfl ?_
      refine mj_T.call rfl rfl (Nat.le_of_ble_eq_true rfl) (Nat.le_of_ble_eq_true rfl) (mV_of m2 13 kt (by decide) rfl (by decide) rfl _) rfl (mj_Ok.up (by omega) (mP_highest (D := 0) m2 kt)) (fun v g73 hq => ?_) (fun i g73 hq => ?_)
      rotate_left
      · cases hq
      cases hq
      refine mj_T.eq (pc2 := 31) (st2 := [.int (jn ((cL (t + 3) : Int) - 1)), .int (jn (((da : Nat) - 1 : Int) + ((db : Nat) - 1 : Int)))]) ?_ rfl rfl rfl rfl
      refine mj_T.icmp (a := (((da : Nat) - 1 : Int) + ((db : Nat) - 1 : Int))) (b := ((cL (t + 3) : Int) - 1)) rfl ⟨by omega, by omega⟩ ⟨by omega, by omega⟩ (fun c74 => ?_) (fun c74 => ?_)
      · simp only [jc, Bool.not_eq_true', Bool.not_eq_false', decide_eq_true_eq, decide_eq_false_iff_not] at c74
        exact cont (by omega)
      · simp only [jc, Bool.not_eq_true', Bool.not_eq_false', decide_eq_true_eq, decide_eq_false_iff_not] at c74
        refine mj_T.pl rfl rfl rfl rfl ?_
        exact mj_T.ret rfl rfl rfl (Or.inr ⟨by omega, _, m2, rfl⟩)
end MTJ
/-! The desk of the class, exactly: rows are multiplied. -/
/-- a row as a polynomial -/
def rw13 (A : Nat → Int) : pz_P := fun i => if i < 13 then A i else 0
/-- what a register may take -/
def sml (A : Nat → Int) : Prop := ∀ i, i < 13 → (A i).natAbs ≤ 999999999999999999
def fit13 (P : pz_P) : Prop := sml P ∧ ∀ i, 13 ≤ i → P i = 0
/-- all but the desk's own numbers stay -/
def dF (V V' : Nat → Int) : Prop := ∀ a, (a < 20 ∨ 172 ≤ a ∨ a = 21 ∨ a = 51 ∨ a = 81 ∨ a = 111) → V' a = V a
def dG4 (X : Nat → Nat → Int) : Prop := (-1 ≤ X 20 2 ∧ X 20 2 < 13) ∧ (-1 ≤ X 50 2 ∧ X 50 2 < 13) ∧ (-1 ≤ X 80 2 ∧ X 80 2 < 13) ∧ (-1 ≤ X 110 2 ∧ X 110 2 < 25)
def xF (S : Nat → Prop) (X X' : Nat → Nat → Int) : Prop := (∀ a, a ≠ 20 → a ≠ 50 → a ≠ 80 → a ≠ 110 → ¬ S a → X' a = X a) ∧ (dG4 X → dG4 X')
theorem fdgr {f : Nat → Int} {n m : Nat} (h : n ≤ m) : -1 ≤ (fdg f n : Int) - 1 ∧ (fdg f n : Int) - 1 < (m : Int) := by
  have := fdg_le f n
  omega
theorem dF.rf (V : Nat → Int) : dF V V := fun _ _ => rfl
theorem dF.tr {V V' V'' : Nat → Int} (h : dF V V') (k : dF V' V'') : dF V V'' := fun a ha => (k a ha).trans (h a ha)
theorem dF.pfl {V : Nat → Int} {p k : Nat} {w : Nat → Int} (h : (p = 20 ∧ k = 13) ∨ (p = 50 ∧ k = 13) ∨ (p = 80 ∧ k = 13) ∨ (p = 110 ∧ k = 25)) : dF V (pfl V p w k) := fun a ha => pfl_off _ _ _ (by omega)
theorem dF.scr (V : Nat → Int) (z1 z2 : Int) : dF V (scr V z1 z2) := fun a ha => scr_off _ _ _ (by omega) (by omega)
theorem dF.jvu {V : Nat → Int} {a : Nat} {v : Int} (h : 24 ≤ a ∧ a < 172 ∧ a ≠ 51 ∧ a ≠ 81 ∧ a ≠ 111) : dF V (jvu V a v) := fun x hx => jvu_ne _ _ _ (by omega)
theorem xF.rf (S : Nat → Prop) (X : Nat → Nat → Int) : xF S X X := ⟨fun _ _ _ _ _ _ => rfl, fun q => q⟩
theorem xF.tr {S : Nat → Prop} {X X' X'' : Nat → Nat → Int} (h : xF S X X') (k : xF S X' X'') : xF S X X'' := ⟨fun a h1 h2 h3 h4 h5 => (k.1 a h1 h2 h3 h4 h5).trans (h.1 a h1 h2 h3 h4 h5), fun q => k.2 (h.2 q)⟩
theorem xF.deg {S : Nat → Prop} {X : Nat → Nat → Int} {p : Nat} {v : Int} (h : p = 20 ∨ p = 50 ∨ p = 80 ∨ p = 110) (hv : (-1 ≤ v ∧ v < ((13 : Nat) : Int)) ∨ (p = 110 ∧ -1 ≤ v ∧ v < ((25 : Nat) : Int)) := by first | exact Or.inl (fdgr (by decide +kernel)) | exact Or.inr ⟨rfl, fdgr (by decide +kernel)⟩ | omega) : xF S X (xup X p 2 v) := ⟨fun a h1 h2 h3 h4 h5 => funext fun j => xup_ne _ _ (Or.inl (by omega)), fun q => by
  obtain ⟨q1, q2, q3, q4⟩ := q
  have e : ∀ x, (x = 20 ∨ x = 50 ∨ x = 80 ∨ x = 110) → (-1 ≤ X x 2 ∧ X x 2 < if x = 110 then 25 else 13) → (-1 ≤ xup X p 2 v x 2 ∧ xup X p 2 v x 2 < if x = 110 then 25 else 13) := fun x hx y => by
    by_cases c : x = p
    · subst c
      rw [xup_at]
      split <;> omega
    · rw [xup_ne _ _ (Or.inl c)]
      exact y
  exact ⟨e 20 (by omega) q1, e 50 (by omega) q2, e 80 (by omega) q3, e 110 (by omega) q4⟩⟩
theorem xF.row {S : Nat → Prop} {X : Nat → Nat → Int} {r k : Nat} {w : Nat → Int} (h : S r) (kr : cK r = 2 := by assumption) : xF S X (xfl X r w k) := ⟨fun a h1 h2 h3 h4 h5 => xfl_off _ _ _ (fun e => h5 (by rw [e]; exact h)), fun q => by
  have e : ∀ x, cK x = 13 → xfl X r w k x = X x := fun x hx => xfl_off _ _ _ (fun y => by rw [y, kr] at hx; exact absurd hx (by decide))
  unfold dG4
  rw [e 20 cq_d20, e 50 cq_d50, e 80 cq_d80, e 110 cq_d110]
  exact q⟩
theorem xF.mono {S S' : Nat → Prop} {X X' : Nat → Nat → Int} (hS : ∀ a, S a → S' a) (h : xF S X X') : xF S' X X' := ⟨fun a h1 h2 h3 h4 h5 => h.1 a h1 h2 h3 h4 (fun q => h5 (hS a q)), h.2⟩
theorem rw13_in {A : Nat → Int} {i : Nat} (h : i < 13) : rw13 A i = A i := if_pos h
theorem rw13_out {A : Nat → Int} {i : Nat} (h : 13 ≤ i) : rw13 A i = 0 := if_neg (by omega)
theorem kR_ne {r : Nat} (kr : cK r = 2) : r ≠ 20 ∧ r ≠ 50 ∧ r ≠ 80 ∧ r ≠ 110 := by
  have a := cq_d20
  have b := cq_d50
  have c := cq_d80
  have d := cq_d110
  refine ⟨fun e => ?_, fun e => ?_, fun e => ?_, fun e => ?_⟩ <;> subst e <;> omega
theorem pok_fit {V : Nat → Int} {p m : Nat} (hm : m = cL (p + 3)) (h13 : 13 ≤ m) (P : pz_P) (hP : ∀ i, i < m → V (p + 4 + 2 * i) = P i) (hz : ∀ i, m ≤ i → P i = 0) : pok V p (cL (p + 3)) ↔ fit13 P := by
  rw [← hm]
  constructor
  · intro h
    refine ⟨fun i hi => ?_, fun i hi => ?_⟩
    · have := h i (by omega)
      rw [if_pos (by omega), hP i (by omega), jnl_two] at this
      exact this
    · by_cases q : i < m
      · have := h i q
        rw [if_neg (by omega), hP i q] at this
        have := jnl_eq0.mp (Nat.le_zero.mp this)
        omega
      · exact hz i (by omega)
  · intro h i hi
    rw [hP i hi]
    split
    · exact jnl_two.mpr (h.1 i (by omega))
    · rw [h.2 i (by omega)]
      exact Nat.le_of_eq jnl_zero
theorem pz_mul_out {A B : Nat → Int} {i : Nat} (h : 25 ≤ i) : pz_mul (rw13 A) (rw13 B) i = 0 := pz_lt.mul (a := 13) (b := 13) (c := 25) (fun x hx => rw13_out hx) (fun x hx => rw13_out hx) (by decide) i h
theorem fit_mul : 13 * (999999999999999999 * 999999999999999999) < jB ^ 6 := by decide +kernel
section MMR
variable {g h : mj_H} {n D a b r p : Nat} {V : Nat → Int} {X : Nat → Nat → Int}
theorem mP_load1 (m : jM g n V X h) (kp : cK p = 13) (kr : cK r = 2) (hm : cL (p + 3) = 13) (hX : sml (X r)) (hcap : ∀ i, i < 13 → 2 ≤ cL (p + 4 + 2 * i + 1)) : mj_Ok (D + 2) 40 [.ref p, .ref r, .long (jl ((1 : Nat) : Int))] h (fun z => ∃ h2, jM g n (pfl V p (X r) 13) (xup X p 2 ((fdg (X r) 13 : Int) - 1)) h2 ∧ z = (.inl none, h2)) := by
  have e : (fun e => (X r e).tdiv ((1 : Nat) : Int)) = X r := funext fun e => Int.tdiv_one _
  have h1 := mP_load (D := D) m (d := ((1 : Nat) : Int)) kp kr hm ⟨by decide, by decide⟩ hX hcap
  rw [e] at h1
  exact h1
theorem mul_cl {A B : Nat → Int} (hA : sml A) (hB : sml B) (e : Nat) : jnl (pz_mul (rw13 A) (rw13 B) e).natAbs ≤ 1500 := by
  have bd : ∀ A : Nat → Int, sml A → ∀ i, (rw13 A i).natAbs ≤ 999999999999999999 := fun A hA i => by
    unfold rw13
    split
    · exact hA i (by omega)
    · decide
  have q1 := tw_abs (bd A hA) (bd B hB) 13 0 e
  rw [tw_end (fun i hi => by unfold rw13; exact if_neg (by omega))] at q1
  exact jnl_B q1 (jB_15 (m := 6) (by decide +kernel) (by decide))
/-- what a product of two rows needs -/
theorem mD_times2 (m : jM g n (pfl (pfl V 20 (X a) 13) 50 (X b) 13) (xup (xup X 20 2 ((fdg (X a) 13 : Int) - 1)) 50 2 ((fdg (X b) 13 : Int) - 1)) h) (ka : cK a = 2) (kb : cK b = 2) (hb_a : sml (X a)) (hb_b : sml (X b)) : mj_Ok (D + 3) 14 [.ref 19, .ref 110, .ref 20, .ref 50] h (fun r => ∃ (z1 z2 : Int) (h2 : mj_H), jM g n (pfl (scr (pfl (pfl V 20 (X a) 13) 50 (X b) 13) z1 z2) 110 (pz_mul (rw13 (X a)) (rw13 (X b))) 25) (xup (xup (xup X 20 2 ((fdg (X a) 13 : Int) - 1)) 50 2 ((fdg (X b) 13 : Int) - 1)) 110 2 ((fdg (pz_mul (rw13 (X a)) (rw13 (X b))) 25 : Int) - 1)) h2 ∧ r = (.inl (some (.int (jn 1))), h2)) := by
  have p20 : cL (20 + 3) = 13 := mK_z.1
  have p50 : cL (50 + 3) = 13 := mK_z.2.1
  have p110 : cL (110 + 3) = 25 := mK_z.2.2.2.1
  have eA : pcs (pfl (pfl V 20 (X a) 13) 50 (X b) 13) 20 = rw13 (X a) := funext fun i => by
    unfold pcs rw13
    rw [p20]
    split
    · rw [pfl_off _ _ _ (by omega), pfl_at _ _ _ (by omega)]
    · rfl
  have eB : pcs (pfl (pfl V 20 (X a) 13) 50 (X b) 13) 50 = rw13 (X b) := funext fun i => by
    unfold pcs rw13
    rw [p50]
    split
    · rw [pfl_at _ _ _ (by omega)]
    · rfl
  have hA := fdg_le (X a) 13
  have hB := fdg_le (X b) 13
  have bd : ∀ A : Nat → Int, sml A → ∀ i, (rw13 A i).natAbs ≤ 999999999999999999 := fun A hA i => by
    unfold rw13
    split
    · exact hA i (by omega)
    · decide
  refine (mD_times (D := D) (t := 110) m (da := fdg (X a) 13) (db := fdg (X b) 13) (al := 999999999999999999) (be := 999999999999999999) (c := 6) cq_d110 (Or.inr rfl) ((xup_ne _ _ (Or.inl (by decide))).trans (xup_at _ _ _ _)) (xup_at _ _ _ _) hA hB (fun i h1 h2 => ?_) (fun i => ?_) (fun i => ?_) (by decide) (fun e he => ?_) fit_mul (jB_15 (m := 3) (by decide +kernel) (by decide)) (jB_15 (m := 3) (by decide +kernel) (by decide)) (fun i h1 h2 => ?_)).to (fun r hr => ?_)
  · rw [pfl_at _ _ _ h2]
    exact fdg_zero _ _ _ h1 h2
  · rw [eA]
    exact bd _ hb_a i
  · rw [eB]
    exact bd _ hb_b i
  · exact Nat.le_of_eq (mK_z.2.2.2.2.2.1 e (by omega)).symm
  · rw [pfl_off _ _ _ (by omega), pfl_at _ _ _ h2]
    exact fdg_zero _ _ _ h1 h2
  · rw [eA, eB, p110] at hr
    rcases hr with ⟨_, h1⟩ | ⟨h1, _⟩
    · exact h1
    · omega
theorem mD_mulRows (m : jM g n V X h) (ka : cK a = 2) (kb : cK b = 2) (hb_a : sml (X a)) (hb_b : sml (X b)) (kr : cK r = 2) : mj_Ok (D + 4) 11 [.ref 19, .ref a, .ref b, .ref r] h (fun z => ∃ V2 X2 h2, jM g n V2 X2 h2 ∧ dF V V2 ∧ xF (fun x => x = r) X X2 ∧ ((fit13 (pz_mul (rw13 (X a)) (rw13 (X b))) ∧ z = (.inl (some (.int (jn 1))), h2) ∧ ∀ i, i < 13 → X2 r i = (pz_mul (rw13 (X a)) (rw13 (X b))) i) ∨ (¬ fit13 (pz_mul (rw13 (X a)) (rw13 (X b))) ∧ z = (.inl (some (.int (jn 0))), h2)))) := by
  refine mj_Ok.of (M := mj_m11) rfl rfl rfl ?_
  refine mj_T.pl rfl rfl rfl rfl ?_
  refine mT_get m 11 cq_d19 (by decide) rfl rfl ?_
  refine mj_T.pl rfl rfl rfl rfl ?_
  refine jT.lc 1 rfl rfl ?_
  refine mj_T.call rfl rfl (Nat.le_of_ble_eq_true rfl) (Nat.le_of_ble_eq_true rfl) (mV_of m 13 cq_d20 (by decide) rfl (by decide) rfl _) rfl (mj_Ok.up (by omega) (mP_load1 (D := 0) m cq_d20 ka (by decide +kernel) (by exact hb_a) (fun i hi => by have := mK_z.2.2.2.2.1 i hi; omega))) (fun v g1 hq => ?_) (fun i g1 hq => ?_)
  rotate_left
  · obtain ⟨_, _, hq⟩ := hq; cases hq
  obtain ⟨_, m2, hq⟩ := hq
  cases hq
  refine mj_T.eq (pc2 := 9) (st2 := []) ?_ rfl rfl rfl rfl
  refine mj_T.pl rfl rfl rfl rfl ?_
  refine mT_get m2 11 cq_d19 (by decide) rfl rfl ?_
  refine mj_T.pl rfl rfl rfl rfl ?_
  refine jT.lc 1 rfl rfl ?_
  refine mj_T.call rfl rfl (Nat.le_of_ble_eq_true rfl) (Nat.le_of_ble_eq_true rfl) (mV_of m2 13 cq_d50 (by decide) rfl (by decide) rfl _) rfl (mj_Ok.up (by omega) (mP_load1 (D := 0) m2 cq_d50 kb (by decide +kernel) (by rw [show (xup X 20 2 ((fdg (X a) 13 : Int) - 1)) b = X b from (funext fun j => xup_ne _ _ (Or.inl (kR_ne kb).1))]; exact hb_b) (fun i hi => by have := mK_z.2.2.2.2.1 i hi; omega))) (fun v g3 hq => ?_) (fun i g3 hq => ?_)
  rotate_left
  · obtain ⟨_, _, hq⟩ := hq; cases hq
  obtain ⟨_, m4, hq⟩ := hq
  cases hq
  rw [show (xup X 20 2 ((fdg (X a) 13 : Int) - 1)) b = X b from (funext fun j => xup_ne _ _ (Or.inl (kR_ne kb).1))] at m4
  refine mj_T.eq (pc2 := 18) (st2 := []) ?_ rfl rfl rfl rfl
  iterate 2 refine mj_T.pl rfl rfl rfl rfl ?_
  refine mT_get m4 11 cq_d19 (by decide) rfl rfl ?_
  refine mj_T.pl rfl rfl rfl rfl ?_
  refine mT_get m4 11 cq_d19 (by decide) rfl rfl ?_
  refine mj_T.pl rfl rfl rfl rfl ?_
  refine mT_get m4 11 cq_d19 (by decide) rfl rfl ?_
  have kn := kR_ne kr
  refine mj_T.call rfl rfl (Nat.le_of_ble_eq_true rfl) (Nat.le_of_ble_eq_true rfl) (mV_of m4 11 cq_d19 (by decide) rfl (by decide) rfl _) rfl (mD_times2 (D := D) m4 ka kb hb_a hb_b) (fun v g1 hq => ?_) (fun i g1 hq => ?_)
  rotate_left
  · obtain ⟨_, _, _, _, hq⟩ := hq; cases hq
  obtain ⟨z1, z2, _, m9, hq⟩ := hq
  cases hq
  refine mj_T.eq (pc2 := 34) (st2 := [.int (jn 1)]) ?_ rfl rfl rfl rfl
  refine mj_T.if0 (a := 1) rfl ⟨by omega, by omega⟩ (fun c41 => ?_) (fun c41 => ?_)
  · exfalso
    simp [jc] at c41
  · simp only [jc, Bool.not_eq_true', Bool.not_eq_false', decide_eq_true_eq, decide_eq_false_iff_not] at c41
    refine mj_T.pl rfl rfl rfl rfl ?_
    refine mT_get m9 11 cq_d19 (by decide) rfl rfl ?_
    refine mj_T.pl rfl rfl rfl rfl ?_
    have p110 : cL (110 + 3) = 25 := mK_z.2.2.2.1
    have hfi := pok_fit (V := (pfl (scr (pfl (pfl V 20 (X a) 13) 50 (X b) 13) z1 z2) 110 (pz_mul (rw13 (X a)) (rw13 (X b))) 25)) (p := 110) (m := 25) p110.symm (by decide) (pz_mul (rw13 (X a)) (rw13 (X b))) (fun i hi => pfl_at _ _ _ hi) (fun i hi => pz_mul_out hi)
    have hd : dF V (pfl (scr (pfl (pfl V 20 (X a) 13) 50 (X b) 13) z1 z2) 110 (pz_mul (rw13 (X a)) (rw13 (X b))) 25) := (dF.pfl (by omega)).tr ((dF.pfl (by omega)).tr ((dF.scr _ z1 z2).tr (dF.pfl (by omega))))
    have hx : xF (fun x => x = r) X (xup (xup (xup X 20 2 ((fdg (X a) 13 : Int) - 1)) 50 2 ((fdg (X b) 13 : Int) - 1)) 110 2 ((fdg (pz_mul (rw13 (X a)) (rw13 (X b))) 25 : Int) - 1)) := (xF.deg (by omega)).tr ((xF.deg (by omega)).tr (xF.deg (by omega)))
    refine mj_T.call rfl rfl (Nat.le_of_ble_eq_true rfl) (Nat.le_of_ble_eq_true rfl) (mV_of m9 13 cq_d110 (by decide) rfl (by decide) rfl _) rfl (mj_Ok.up (by omega) (mP_store (D := 0) m9 cq_d110 (pcl_pfl (by omega) (fun e _ => mul_cl hb_a hb_b e)) kr (by omega))) (fun v g1 hq => ?_) (fun i g1 hq => ?_)
    rotate_left
    · rcases hq with ⟨_, _, _, hq⟩ | ⟨_, hq⟩ <;> cases hq
    rcases hq with ⟨ho, _, m8, hq⟩ | ⟨ho, hq⟩
    · cases hq
      refine mj_T.eq (pc2 := 45) (st2 := [.int (jn 1)]) ?_ rfl rfl rfl rfl
      refine mj_T.if0 (a := 1) rfl ⟨by omega, by omega⟩ (fun c82 => ?_) (fun c82 => ?_)
      · exfalso
        simp [jc] at c82
      · simp only [jc, Bool.not_eq_true', Bool.not_eq_false', decide_eq_true_eq, decide_eq_false_iff_not] at c82
        iterate 2 refine mj_T.pl rfl rfl rfl rfl ?_
        refine mj_T.ret rfl rfl rfl ⟨_, _, _, m8, hd, hx.tr (xF.row (S := fun x => x = r) rfl), Or.inl ⟨hfi.mp ho, rfl, fun i hi => ?_⟩⟩
        rw [xfl_at _ _ _ hi]
        exact pfl_at _ _ _ (by omega)
    · cases hq
      refine mj_T.eq (pc2 := 45) (st2 := [.int (jn 0)]) ?_ rfl rfl rfl rfl
      refine mj_T.if0 (a := 0) rfl ⟨by omega, by omega⟩ (fun c81 => ?_) (fun c81 => ?_)
      · simp only [jc, Bool.not_eq_true', Bool.not_eq_false', decide_eq_true_eq, decide_eq_false_iff_not] at c81
        refine mj_T.pl rfl rfl rfl rfl ?_
        exact mj_T.ret rfl rfl rfl ⟨_, _, _, m9, hd, hx, Or.inr ⟨fun q => ho (hfi.mpr q), rfl⟩⟩
      · exfalso
        simp [jc] at c81
end MMR
