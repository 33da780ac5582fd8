/-! The row of Sturm: one step of it, with its divisions exact. -/
/-- two neighbours of the row of A (degree m) and B (degree n): X of degree dx, Y of degree dy; la and ps divide what comes next -/
def RI (A B : pz_P) (m n : Nat) (X Y : pz_P) (dx dy : Nat) (la ps : Int) : Prop := (∀ i, dx < i → X i = 0) ∧ (∀ i, dy < i → Y i = 0) ∧ Y dy ≠ 0 ∧ dy ≤ dx ∧ (dy = dx → ps = 1) ∧ 0 < la ∧ 0 < ps ∧ SI A B m n X Y dx dy la ps
theorem RI.start {A B : pz_P} {m n : Nat} (hA : ∀ i, m < i → A i = 0) (hB : ∀ i, n < i → B i = 0) (hn : B n ≠ 0) (hmn : n ≤ m) : RI A B m n A B m n 1 1 := ⟨hA, hB, hn, hmn, fun _ => rfl, by decide, by decide, SI.start A B m n⟩
/-- what is left of X by Y, divided -/
def rdv (X Y : pz_P) (dx dy : Nat) (la ps : Int) : pz_P := fun i => itd (itd (er X Y dy (dx - dy) (dx - dy + 1) i) la 1) ps (dx - dy)
theorem itd_neg (x d : Int) : ∀ t, itd (-x) d t = -itd x d t
  | 0 => rfl
  | t + 1 => by
    show (itd (-x) d t).tdiv d = -((itd x d t).tdiv d)
    rw [itd_neg x d t, Int.neg_tdiv]
theorem RI.div {A B X Y : pz_P} {m n dx dy : Nat} {la ps : Int} (r : RI A B m n X Y dx dy la ps) (h1 : 1 ≤ dy) : pm (rdv X Y dx dy la ps) (SB (n - (dy - 1)) (m - (dy - 1)) n A B) ∧ pm (er X Y dy (dx - dy) (dx - dy + 1)) (pz_sc (la * ps ^ (dx - dy)) (SB (n - (dy - 1)) (m - (dy - 1)) n A B)) := by
  obtain ⟨r1, r2, r3, r4, r5, r6, r7, r8⟩ := r
  have e := r8.exact r4 h1 r2 r3 (er_SE r4 r2 r1) (er_low r4 r2 r1)
  refine ⟨?_, e⟩
  have val : ∀ s : Int, itd (itd (la * ps ^ (dx - dy) * s) la 1) ps (dx - dy) = s := fun s => by
    have q1 : itd (la * ps ^ (dx - dy) * s) la 1 = ps ^ (dx - dy) * s := by
      have := itd_mul (d := la) (by omega) (ps ^ (dx - dy) * s) 1
      rw [Int.pow_one, ← Int.mul_assoc] at this
      exact this
    rw [q1]
    exact itd_mul (by omega) s _
  rcases e with e | e
  · refine Or.inl fun i => ?_
    unfold rdv
    rw [e i]
    exact val _
  · refine Or.inr fun i => ?_
    unfold rdv
    rw [e i, itd_neg, itd_neg]
    exact congrArg Neg.neg (val _)
/-- the number that is known next -/
def nxk (Y : pz_P) (dx dy : Nat) (ps : Int) : Int := if dx = dy then ps else itd (((Y dy).natAbs : Int) ^ (dx - dy)) ps (dx - dy - 1)
theorem RI.known {A B X Y : pz_P} {m n dx dy : Nat} {la ps : Int} (r : RI A B m n X Y dx dy la ps) (hd : dy < dx) : nxk Y dx dy ps = ((SB (n - dy) (m - dy) n A B dy).natAbs : Int) ∧ ((Y dy).natAbs : Int) ^ (dx - dy) = ps ^ (dx - dy - 1) * nxk Y dx dy ps ∧ 0 < nxk Y dx dy ps := by
  obtain ⟨r1, r2, r3, r4, r5, r6, r7, r8⟩ := r
  have k := r8.known hd r2
  have k2 : ((Y dy).natAbs : Int) ^ (dx - dy) = ps ^ (dx - dy - 1) * ((SB (n - dy) (m - dy) n A B dy).natAbs : Int) := by
    have := congrArg (fun t : Nat => (t : Int)) k
    rw [Int.natCast_pow, Int.natCast_mul, Int.natCast_pow, show ((ps.natAbs : Nat) : Int) = ps by omega] at this
    exact this
  have e : nxk Y dx dy ps = ((SB (n - dy) (m - dy) n A B dy).natAbs : Int) := by
    unfold nxk
    rw [if_neg (by omega), k2]
    exact itd_mul (by omega) _ _
  refine ⟨e, by rw [e]; exact k2, ?_⟩
  rw [e]
  rcases Nat.eq_zero_or_pos (SB (n - dy) (m - dy) n A B dy).natAbs with z | z
  · rw [z] at k2
    have : ((Y dy).natAbs : Int) ^ (dx - dy) ≠ 0 := Int.pow_ne_zero (by omega)
    rw [k2] at this
    exact absurd (Int.mul_zero _) this
  · omega
/-- the next two neighbours -/
theorem RI.next {A B X Y F : pz_P} {m n dx dy rr : Nat} {la ps : Int} (r : RI A B m n X Y dx dy la ps) (h1 : 1 ≤ dy) (hF : pm F (rdv X Y dx dy la ps)) (hr : rr < dy) (hz : ∀ i, rr < i → F i = 0) (hn : F rr ≠ 0) : RI A B m n Y F dy rr ((Y dy).natAbs : Int) (nxk Y dx dy ps) := by
  have r0 := r
  obtain ⟨r1, r2, r3, r4, r5, r6, r7, r8⟩ := r
  obtain ⟨d1, d2⟩ := r0.div h1
  have hpos : 0 < nxk Y dx dy ps := by
    by_cases c : dx = dy
    · unfold nxk
      rw [if_pos c]
      exact r7
    · exact (r0.known (by omega)).2.2
  have hRz : ∀ i, rr < i → er X Y dy (dx - dy) (dx - dy + 1) i = 0 := fun i hi => by
    have f1 := hz i hi
    have f2 : rdv X Y dx dy la ps i = 0 := by
      rcases hF with q | q
      · rw [← q i]
        exact f1
      · have := q i
        omega
    have f3 : SB (n - (dy - 1)) (m - (dy - 1)) n A B i = 0 := by
      rcases d1 with q | q
      · rw [← q i]
        exact f2
      · have := q i
        omega
    rcases d2 with q | q
    · rw [q i]
      show _ * SB _ _ _ _ _ i = 0
      rw [f3, Int.mul_zero]
    · rw [q i]
      show -(_ * SB _ _ _ _ _ i) = 0
      rw [f3, Int.mul_zero]
      rfl
  have hRF : pm (er X Y dy (dx - dy) (dx - dy + 1)) (pz_sc (la * ps ^ (dx - dy)) F) := d2.tr ((d1.sy.tr hF.sy).sc _)
  refine ⟨r2, hz, hn, by omega, fun e => by omega, by omega, hpos, ?_⟩
  refine SI.step r8 r4 hr r2 r3 (er_SE r4 r2 r1) hRz hRF (by omega) (by omega) rfl ?_
  by_cases c : dx = dy
  · refine Or.inl ⟨c, r5 c.symm, ?_⟩
    unfold nxk
    rw [if_pos c]
    exact r5 c.symm
  · exact Or.inr ⟨by omega, (r0.known (by omega)).2.1⟩
