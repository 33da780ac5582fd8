/-! Determinant polynomials: rows are polynomials; all but one of the columns are cut off from the top. -/
def zs : Nat → (Nat → Int) → Int
  | 0, _ => 0
  | n + 1, f => zs n f + f n
theorem zs_congr {f g : Nat → Int} : ∀ {n : Nat}, (∀ i, i < n → f i = g i) → zs n f = zs n g
  | 0, _ => rfl
  | n + 1, h => by
    show zs n f + f n = zs n g + g n
    rw [zs_congr (fun i hi => h i (by omega)), h n (by omega)]
theorem zs_zero {f : Nat → Int} : ∀ {n : Nat}, (∀ i, i < n → f i = 0) → zs n f = 0
  | 0, _ => rfl
  | n + 1, h => by
    show zs n f + f n = 0
    rw [zs_zero (fun i hi => h i (by omega)), h n (by omega)]
    rfl
theorem zs_one {f : Nat → Int} {p : Nat} : ∀ {n : Nat}, p < n → (∀ i, i < n → i ≠ p → f i = 0) → zs n f = f p
  | 0, h, _ => by omega
  | n + 1, hp, h => by
    show zs n f + f n = f p
    by_cases c : p = n
    · subst c
      rw [zs_zero (fun i hi => h i (by omega) (by omega)), Int.zero_add]
    · rw [zs_one (p := p) (by omega) (fun i hi hn => h i (by omega) hn), h n (by omega) (fun q => c q.symm), Int.add_zero]
theorem zs_two {f : Nat → Int} {p q : Nat} (hpq : p ≠ q) : ∀ {n : Nat}, p < n → q < n → (∀ i, i < n → i ≠ p → i ≠ q → f i = 0) → zs n f = f p + f q
  | 0, h, _, _ => by omega
  | n + 1, hp, hq, h => by
    show zs n f + f n = f p + f q
    by_cases c : p = n
    · subst c
      rw [zs_one (p := q) (by omega) (fun i hi hn => h i (by omega) (by omega) hn), Int.add_comm]
    · by_cases d : q = n
      · subst d
        rw [zs_one (p := p) (by omega) (fun i hi hn => h i (by omega) hn (by omega))]
      · rw [zs_two hpq (by omega) (by omega) (fun i hi h1 h2 => h i (by omega) h1 h2), h n (by omega) (fun w => c w.symm) (fun w => d w.symm), Int.add_zero]
theorem zs_lin (a b : Int) (f g : Nat → Int) : ∀ n, zs n (fun i => a * f i + b * g i) = a * zs n f + b * zs n g
  | 0 => by show (0 : Int) = a * 0 + b * 0; rw [Int.mul_zero, Int.mul_zero]; rfl
  | n + 1 => by
    show zs n _ + (a * f n + b * g n) = a * (zs n f + f n) + b * (zs n g + g n)
    rw [zs_lin a b f g n, Int.mul_add, Int.mul_add]
    omega
def sgn : Nat → Int
  | 0 => 1
  | n + 1 => -sgn n
theorem sgn_sq : ∀ n, sgn n = 1 ∨ sgn n = -1
  | 0 => Or.inl rfl
  | n + 1 => by
    show -sgn n = 1 ∨ -sgn n = -1
    rcases sgn_sq n with h | h <;> rw [h]
    · exact Or.inr rfl
    · exact Or.inl rfl
/-- the rows without one of them -/
def rsk1 (i : Nat) (L : Nat → pz_P) (r : Nat) : pz_P := if r < i then L r else L (r + 1)
/-- another row in its place -/
def rup (L : Nat → pz_P) (r : Nat) (P : pz_P) (s : Nat) : pz_P := if s = r then P else L s
/-- k + 1 rows, the top column c -/
def dp : Nat → Nat → (Nat → pz_P) → pz_P
  | 0, _, L => L 0
  | k + 1, c, L => fun x => zs (k + 2) (fun i => sgn i * L i c * dp k (c - 1) (rsk1 i L) x)
theorem dp_congr : ∀ (k c : Nat) {L L' : Nat → pz_P}, (∀ r, r ≤ k → L r = L' r) → dp k c L = dp k c L'
  | 0, _, L, L', h => h 0 (Nat.le_refl 0)
  | k + 1, c, L, L', h => funext fun x => by
    show zs (k + 2) _ = zs (k + 2) _
    refine zs_congr (fun i hi => ?_)
    rw [h i (by omega), dp_congr k (c - 1) (L := rsk1 i L) (L' := rsk1 i L') (fun r hr => by
      unfold rsk1
      split
      · exact h r (by omega)
      · exact h (r + 1) (by omega))]
/-- linear in each row -/
theorem dp_lin (a b : Int) (P Q : pz_P) : ∀ (k c r : Nat) (L : Nat → pz_P), r ≤ k → ∀ x, dp k c (rup L r (pz_add (pz_sc a P) (pz_sc b Q))) x = a * dp k c (rup L r P) x + b * dp k c (rup L r Q) x
  | 0, c, r, L, hr, x => by
    have e : r = 0 := by omega
    subst e
    rfl
  | k + 1, c, r, L, hr, x => by
    show zs (k + 2) _ = a * zs (k + 2) _ + b * zs (k + 2) _
    rw [← zs_lin]
    refine zs_congr (fun i hi => ?_)
    by_cases e : i = r
    · subst e
      have sk : ∀ P : pz_P, ∀ s, rsk1 i (rup L i P) s = rsk1 i L s := fun P s => by
        simp only [rsk1, rup]
        split
        · rw [if_neg (by omega)]
        · rw [if_neg (by omega)]
      rw [funext (sk (pz_add (pz_sc a P) (pz_sc b Q))), funext (sk P), funext (sk Q)]
      have e0 : ∀ P : pz_P, rup L i P i = P := fun P => if_pos rfl
      rw [e0, e0, e0]
      show sgn i * (a * P c + b * Q c) * dp k (c - 1) (rsk1 i L) x = _
      rw [Int.mul_add, Int.add_mul]
      have q1 : sgn i * (a * P c) * dp k (c - 1) (rsk1 i L) x = a * (sgn i * P c * dp k (c - 1) (rsk1 i L) x) := by ac_rfl
      have q2 : sgn i * (b * Q c) * dp k (c - 1) (rsk1 i L) x = b * (sgn i * Q c * dp k (c - 1) (rsk1 i L) x) := by ac_rfl
      rw [q1, q2]
    · have e0 : ∀ P : pz_P, rup L r P i = L i := fun P => if_neg e
      rw [e0, e0, e0]
      obtain ⟨r', hr', sk⟩ : ∃ r', r' ≤ k ∧ ∀ P : pz_P, rsk1 i (rup L r P) = rup (rsk1 i L) r' P := by
        by_cases c1 : r < i
        · refine ⟨r, by omega, fun P => funext fun s => ?_⟩
          simp only [rsk1, rup]
          by_cases d1 : s < i
          · rw [if_pos d1, if_pos d1]
          · rw [if_neg d1, if_neg (by omega), if_neg (by omega), if_neg d1]
        · refine ⟨r - 1, by omega, fun P => funext fun s => ?_⟩
          simp only [rsk1, rup]
          by_cases d1 : s < i
          · rw [if_pos d1, if_neg (by omega), if_neg (by omega), if_pos d1]
          · rw [if_neg d1, if_neg d1]
            by_cases d2 : s + 1 = r
            · rw [if_pos d2, if_pos (by omega)]
            · rw [if_neg d2, if_neg (by omega)]
      rw [sk, sk, sk, dp_lin a b P Q k (c - 1) r' (rsk1 i L) hr' x, Int.mul_add]
      have q : ∀ t d : Int, sgn i * L i c * (t * d) = t * (sgn i * L i c * d) := fun t d => by ac_rfl
      rw [q, q]
/-- two neighbours that are the same -/
theorem dp_eq : ∀ (k c r : Nat) (L : Nat → pz_P), r + 1 ≤ k → L r = L (r + 1) → ∀ x, dp k c L x = 0
  | 0, _, r, _, hr, _, _ => by omega
  | k + 1, c, r, L, hr, h, x => by
    show zs (k + 2) _ = 0
    rw [zs_two (p := r) (q := r + 1) (by omega) (by omega) (by omega) (fun i hi h1 h2 => ?_)]
    · have sk : ∀ s, rsk1 (r + 1) L s = rsk1 r L s := fun s => by
        unfold rsk1
        by_cases d1 : s < r
        · rw [if_pos d1, if_pos (by omega)]
        · rw [if_neg d1]
          by_cases d2 : s = r
          · subst d2
            rw [if_pos (by omega), h]
          · rw [if_neg (by omega)]
      rw [funext sk, h]
      show sgn r * L (r + 1) c * dp k (c - 1) (rsk1 r L) x + -sgn r * L (r + 1) c * dp k (c - 1) (rsk1 r L) x = 0
      rw [Int.neg_mul, Int.neg_mul]
      omega
    · have hz : dp k (c - 1) (rsk1 i L) x = 0 := by
        by_cases c1 : i < r
        · refine dp_eq k (c - 1) (r - 1) (rsk1 i L) (by omega) ?_ x
          unfold rsk1
          rw [if_neg (by omega), if_neg (by omega), show r - 1 + 1 = r by omega]
          exact h
        · refine dp_eq k (c - 1) r (rsk1 i L) (by omega) ?_ x
          unfold rsk1
          rw [if_pos (by omega), if_pos (by omega)]
          exact h
      rw [hz, Int.mul_zero]
theorem rup_rup (L : Nat → pz_P) (r : Nat) (P Q : pz_P) : rup (rup L r P) r Q = rup L r Q := funext fun s => by
  unfold rup
  split
  · rfl
  · rfl
theorem rup_comm (L : Nat → pz_P) {r s : Nat} (h : r ≠ s) (P Q : pz_P) : rup (rup L r P) s Q = rup (rup L s Q) r P := funext fun t => by
  unfold rup
  by_cases c : t = s
  · rw [if_pos c, if_neg (by omega), if_pos c]
  · rw [if_neg c]
    by_cases d : t = r
    · rw [if_pos d, if_pos d]
    · rw [if_neg d, if_neg d, if_neg c]
theorem rup_self (L : Nat → pz_P) (r : Nat) : rup L r (L r) = L := funext fun s => by
  unfold rup
  split
  · rename_i e
    rw [e]
  · rfl
theorem pz_add11 (P Q : pz_P) : pz_add (pz_sc 1 P) (pz_sc 1 Q) = pz_add P Q := funext fun i => by
  show 1 * P i + 1 * Q i = P i + Q i
  omega
/-- two neighbours change places -/
theorem dp_swap (k c r : Nat) (L : Nat → pz_P) (hr : r + 1 ≤ k) (P Q : pz_P) (x : Nat) : dp k c (rup (rup L r Q) (r + 1) P) x = -dp k c (rup (rup L r P) (r + 1) Q) x := by
  have lin : ∀ (A B : pz_P) (M : Nat → pz_P) (s : Nat), s ≤ k → dp k c (rup M s (pz_add A B)) x = dp k c (rup M s A) x + dp k c (rup M s B) x := fun A B M s hs => by
    have := dp_lin 1 1 A B k c s M hs x
    rw [pz_add11, Int.one_mul, Int.one_mul] at this
    exact this
  have same : ∀ A : pz_P, dp k c (rup (rup L r A) (r + 1) A) x = 0 := fun A => by
    refine dp_eq k c r _ hr ?_ x
    unfold rup
    rw [if_neg (by omega), if_pos rfl, if_pos rfl]
  have h0 := same (pz_add P Q)
  rw [lin P Q (rup L r (pz_add P Q)) (r + 1) (by omega), rup_comm L (by omega) (pz_add P Q) P, rup_comm L (by omega) (pz_add P Q) Q, lin P Q (rup L (r + 1) P) r (by omega), lin P Q (rup L (r + 1) Q) r (by omega), ← rup_comm L (show r ≠ r + 1 by omega) P P, ← rup_comm L (show r ≠ r + 1 by omega) Q P, ← rup_comm L (show r ≠ r + 1 by omega) P Q, ← rup_comm L (show r ≠ r + 1 by omega) Q Q, same, same] at h0
  omega
/-- two rows that are the same -/
theorem dp_eq2 (k c : Nat) : ∀ (d r : Nat) (L : Nat → pz_P), r + d + 1 ≤ k → L r = L (r + d + 1) → ∀ x, dp k c L x = 0
  | 0, r, L, hr, h, x => dp_eq k c r L hr h x
  | d + 1, r, L, hr, h, x => by
    -- the upper one moves down by one
    have e1 : L = rup (rup L (r + d + 1) (L (r + d + 1))) (r + d + 1 + 1) (L (r + d + 1 + 1)) := by
      rw [rup_self]
      exact (rup_self L _).symm
    have h2 := dp_swap k c (r + d + 1) L (by omega) (L (r + d + 1)) (L (r + d + 1 + 1)) x
    rw [← e1] at h2
    have h3 := dp_eq2 k c d r (rup (rup L (r + d + 1) (L (r + d + 1 + 1))) (r + d + 1 + 1) (L (r + d + 1))) (by omega) (by
      unfold rup
      rw [if_neg (by omega), if_neg (by omega), if_neg (by omega), if_pos rfl]
      exact h) x
    omega
theorem dp_two {k c r s : Nat} {L : Nat → pz_P} (hrs : r ≠ s) (hr : r ≤ k) (hs : s ≤ k) (h : L r = L s) (x : Nat) : dp k c L x = 0 := by
  rcases Nat.lt_or_ge r s with q | q
  · exact dp_eq2 k c (s - r - 1) r L (by omega) (by rw [show r + (s - r - 1) + 1 = s by omega]; exact h) x
  · exact dp_eq2 k c (r - s - 1) s L (by omega) (by rw [show s + (r - s - 1) + 1 = r by omega]; exact h.symm) x
/-- a row gets a multiple of another one, and is itself multiplied -/
theorem dp_row {k c r s : Nat} {L : Nat → pz_P} (hrs : r ≠ s) (hr : r ≤ k) (hs : s ≤ k) (a b : Int) (x : Nat) : dp k c (rup L r (pz_add (pz_sc a (L r)) (pz_sc b (L s)))) x = a * dp k c L x := by
  rw [dp_lin a b (L r) (L s) k c r L hr x, rup_self, dp_two (L := rup L r (L s)) hrs hr hs (by unfold rup; rw [if_pos rfl, if_neg (Ne.symm hrs)]) x, Int.mul_zero, Int.add_zero]
/-- just one row reaches the top column -/
theorem dp_top {k c p : Nat} {L : Nat → pz_P} (hp : p ≤ k + 1) (h : ∀ r, r ≤ k + 1 → r ≠ p → L r c = 0) (x : Nat) : dp (k + 1) c L x = sgn p * L p c * dp k (c - 1) (rsk1 p L) x := by
  show zs (k + 2) _ = _
  rw [zs_one (p := p) (by omega) (fun i hi hn => by rw [h i (by omega) hn, Int.mul_zero, Int.zero_mul])]
