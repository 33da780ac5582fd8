/-! The class: texts are written, all else stays. -/
theorem cq_t : (cK 15 = 17 ∧ cK 16 = 3 ∧ cR 15 0 = 16 ∧ cL 16 = 340 ∧ cK 14 = 3) ∧ (cK 17 = 17 ∧ cK 18 = 3 ∧ cR 17 0 = 18 ∧ cL 18 = 340) := by decide +kernel
/-- a text alone -/
def kT (t x : Nat) : Nat := if x = t then 17 else if x = t + 1 then 3 else 0
def isT (t : Nat) : Prop := cK t = 17 ∧ cK (t + 1) = 3 ∧ cR t 0 = t + 1 ∧ cL (t + 1) = 340 ∧ 1 ≤ t ∧ cK (t - 1) = 3
theorem isT_15 : isT 15 := ⟨cq_t.1.1, cq_t.1.2.1, cq_t.1.2.2.1, cq_t.1.2.2.2.1, by decide, cq_t.1.2.2.2.2⟩
theorem isT_17 : isT 17 := ⟨cq_t.2.1, cq_t.2.2.1, cq_t.2.2.2.1, cq_t.2.2.2.2, by decide, cq_t.1.2.1⟩
theorem kT_c (t x : Nat) : (x = t ∧ kT t x = 17) ∨ (x = t + 1 ∧ kT t x = 3) ∨ (x ≠ t ∧ x ≠ t + 1 ∧ kT t x = 0) := by
  unfold kT
  by_cases c : x = t
  · exact Or.inl ⟨c, if_pos c⟩
  · by_cases d : x = t + 1
    · exact Or.inr (Or.inl ⟨d, by rw [if_neg c, if_pos d]⟩)
    · exact Or.inr (Or.inr ⟨c, d, by rw [if_neg c, if_neg d]⟩)
theorem kT_ty {t : Nat} (q : isT t) : jTY (kT t) cL cR := by
  obtain ⟨q1, q2, q3, q4, q5, q6⟩ := q
  have w : ∀ a k, kT t a = k → k = 0 ∨ (k = 17 ∧ a = t) ∨ (k = 3 ∧ a = t + 1) := fun a k h => by
    rcases kT_c t a with y | y | y <;> omega
  refine ⟨fun a i c h1 h2 => ?_, fun a h1 h2 => ?_, fun a i h1 h2 _ => ?_, fun a h => ?_, fun a h => ?_, fun a h => ?_, fun a b h _ => ?_, fun a h => ?_⟩
  · rcases kT_c t a with y | y | y
    · rw [y.2] at h1
      match i, h1 with
      | 0, h1 =>
        cases h1
        rw [y.1, q3]
        unfold kT
        rw [if_neg (by omega), if_pos rfl]
      | 1, h1 => cases h1; omega
      | i + 2, h1 => simp [jfs] at h1
    · rw [y.2] at h1
      simp [jfs] at h1
    · rw [y.2.2] at h1
      simp [jfs] at h1
  · rcases kT_c t a with y | y | y
    · omega
    · rw [y.2, y.1, q4]
      decide
    · omega
  · have := w a _ rfl
    omega
  · have := w a _ h
    omega
  · have := w a _ h
    omega
  · have := w a _ h
    rw [show a = t by omega, q3]
    exact q4
  · have := w a _ h
    omega
  · have := w a _ h
    omega
section MTX
variable {g h : mj_H} {n D : Nat} {V : Nat → Int} {X : Nat → Nat → Int} {t : Nat}
theorem kT_O (M : jM g n V X h) (q : isT t) (hx : 0 ≤ X t 1 ∧ X t 1 ≤ 340) : jO (kT t) cL cR h n 0 h := by
  obtain ⟨q1, q2, q3, q4, q5, q6⟩ := q
  have hn := M.1
  refine ⟨hn, by omega, fun a _ => ⟨fun _ => rfl, fun h1 h2 => absurd h1 (by omega)⟩, fun a ha => ?_⟩
  rcases kT_c t a with y | y | y
  · rw [y.2, y.1]
    refine ⟨_, M.O 17 q1 (by decide), ?_⟩
    unfold jCf
    rw [if_neg (by omega)]
    refine ⟨_, rfl, rfl, fun i c hc => ?_⟩
    match i, hc with
    | 0, hc => cases hc; exact ⟨_, rfl, by unfold jfv; rw [if_pos (by omega), q3]⟩
    | 1, hc => cases hc; exact ⟨_, rfl, by unfold jfv; rw [if_neg (by omega), if_neg (by omega), if_neg (by omega)]; exact ⟨X t 1, hx.1, hx.2, rfl⟩⟩
    | i + 2, hc => simp [jfs] at hc
  · rw [y.2, y.1]
    have m3 := M.2.2 (t + 1)
    unfold jMk at m3
    rw [q2, if_neg (by omega), if_neg (by omega), if_neg (by omega), if_neg (by omega), if_neg (by omega), if_pos rfl] at m3
    refine ⟨_, m3, ?_⟩
    unfold jCf
    rw [if_pos (by omega)]
    refine ⟨fun j => .int (jn (X (t + 1) j)), rfl, fun i => ?_⟩
    rw [if_pos (Or.inr rfl)]
    exact ⟨(jn (X (t + 1) i)).toInt, jr_of _, by rw [jn_of]⟩
  · exact absurd y.2.2 ha
theorem kT_M (M : jM g n V X h) (q : isT t) {h' : mj_H} (o : jO (kT t) cL cR h n 0 h') : ∃ X2 : Nat → Nat → Int, jM g n V X2 h' ∧ (0 ≤ X2 t 1 ∧ X2 t 1 ≤ 340) ∧ ∀ c, c ≠ t → c ≠ t + 1 → X2 c = X c := by
  obtain ⟨q1, q2, q3, q4, q5, q6⟩ := q
  obtain ⟨o1, _, o3, o4⟩ := o
  have hn := M.1
  have kt : kT t t = 17 := if_pos rfl
  have kt1 : kT t (t + 1) = 3 := by
    unfold kT
    rw [if_neg (by omega), if_pos rfl]
  obtain ⟨e, h1, h2⟩ := o4 t (by omega)
  rw [kt] at h2
  unfold jCf at h2
  rw [if_neg (by omega)] at h2
  obtain ⟨fs, rfl, hl, hf⟩ := h2
  obtain ⟨v0, e0, k0⟩ := hf 0 103 rfl
  obtain ⟨v1, e1, k1⟩ := hf 1 5 rfl
  unfold jfv at k0 k1
  rw [if_pos (by omega), q3] at k0
  rw [if_neg (by omega), if_neg (by omega), if_neg (by omega)] at k1
  obtain ⟨x1, a1, b1, rfl⟩ := k1
  subst k0
  obtain ⟨e', g1, g2⟩ := o4 (t + 1) (by omega)
  rw [kt1] at g2
  unfold jCf at g2
  rw [if_pos (by omega)] at g2
  obtain ⟨f, rfl, hb⟩ := g2
  have h3 : ∀ i, ∃ x : Int, f i = .int (jn x) := fun i => by
    have y := hb i
    rw [if_pos (Or.inr rfl)] at y
    obtain ⟨x, _, y2⟩ := y
    exact ⟨x, y2⟩
  refine ⟨fun a j => if a = t then (if j = 1 then x1 else X t j) else if a = t + 1 then (h3 j).choose else X a j, ?_, ?_, fun c c1 c2 => ?_⟩
  · refine M.up (fun x => x = t ∨ x = t + 1) (by omega) (fun a ha => ?_) (fun p hp => ?_) (fun _ _ => rfl) (fun a ha => ?_) (fun a ha => ?_) (fun a ha => ?_)
    · rcases ha with rfl | rfl <;> omega
    · have hk : kT t p = 0 := by
        rcases kT_c t p with y | y | y
        · exact absurd (Or.inl y.1) hp
        · exact absurd (Or.inr y.1) hp
        · exact y.2.2
      by_cases c : p < h.length
      · exact (o3 p hk).1 c
      · rw [List.getElem?_eq_none (by omega), List.getElem?_eq_none (by omega)]
    · show (fun j => if a = t then (if j = 1 then x1 else X t j) else if a = t + 1 then (h3 j).choose else X a j) = X a
      funext j
      rw [if_neg (fun y => ha (Or.inl y)), if_neg (fun y => ha (Or.inr y))]
    · constructor
      · intro y
        rcases y with y | y
        · exact Or.inr (by rw [y])
        · rw [y] at ha
          omega
      · intro y
        rcases y with y | y
        · rw [show a = t - 1 by omega] at ha
          omega
        · exact Or.inl (by omega)
    · rcases ha with rfl | rfl
      · unfold jMk
        rw [q1, if_neg (by omega), if_neg (by omega), if_neg (by omega), if_neg (by omega), if_neg (by omega), if_neg (by omega), if_neg (by omega), h1]
        match fs, hl, e0, e1 with
        | [_, _], _, rfl, rfl =>
          show some (Sum.inr (7, [Value.ref (a + 1), Value.int (jn x1)])) = some (Sum.inr (jkc 17, [Value.ref (a + 1), .int (jn (if a = a then (if 1 = 1 then x1 else X a 1) else _))]))
          rw [if_pos rfl, if_pos rfl]
          rfl
      · unfold jMk
        rw [q2, if_neg (by omega), if_neg (by omega), if_neg (by omega), if_neg (by omega), if_neg (by omega), if_pos rfl, g1]
        refine congrArg (fun z : Nat → Value => (some (.inl (2, cL (t + 1), z)) : Option mj_E)) (funext fun j => ?_)
        show f j = Value.int (jn (if t + 1 = t then (if j = 1 then x1 else X t j) else if t + 1 = t + 1 then (h3 j).choose else X (t + 1) j))
        rw [if_neg (by omega), if_pos rfl]
        exact (h3 j).choose_spec
  · show 0 ≤ (if t = t then (if 1 = 1 then x1 else X t 1) else _) ∧ (if t = t then (if 1 = 1 then x1 else X t 1) else _) ≤ 340
    rw [if_pos rfl, if_pos rfl]
    exact ⟨a1, b1⟩
  · funext j
    show (if c = t then (if j = 1 then x1 else X t j) else if c = t + 1 then (h3 j).choose else X c j) = X c j
    rw [if_neg c1, if_neg c2]
theorem kT_n {j : Nat} {as : List Value} (M : jM g n V X h) (q : isT t) (c : mj_Ok D j as h (jQ (kT t) cL cR h n 0 [] jV0)) : mj_Ok D j as h (fun r => ∃ (X2 : Nat → Nat → Int) (h2 : mj_H), jM g n V X2 h2 ∧ (0 ≤ X2 t 1 ∧ X2 t 1 ≤ 340) ∧ (∀ c, c ≠ t → c ≠ t + 1 → X2 c = X c) ∧ r = (.inl none, h2)) := c.to fun r hr => by
  obtain ⟨r1, r2⟩ := r
  cases r1 with
  | inl v =>
    have h1 : v = none := hr.1
    obtain ⟨X2, m2, b2, e2⟩ := kT_M M q hr.2
    exact ⟨X2, r2, m2, b2, e2, by rw [h1]⟩
  | inr k => exact absurd hr.1 (by intro y; cases y)
theorem mZ_80 (M : jM g n V X h) (q : isT t) (hx : 0 ≤ X t 1 ∧ X t 1 ≤ 340) {s : Int} (hs : -2147483648 ≤ s ∧ s ≤ 2147483647) : mj_Ok (D + 1) 80 [.ref t, .int (jn s)] h (fun r => ∃ (X2 : Nat → Nat → Int) (h2 : mj_H), jM g n V X2 h2 ∧ (0 ≤ X2 t 1 ∧ X2 t 1 ≤ 340) ∧ (∀ c, c ≠ t → c ≠ t + 1 → X2 c = X c) ∧ r = (.inl none, h2)) := kT_n M q (jc_80 (kT_ty q) (Nat.le_of_eq M.1) (kT_O M q hx) (if_pos rfl) hs)
theorem mZ_83 (M : jM g n V X h) (q : isT t) (hx : 0 ≤ X t 1 ∧ X t 1 ≤ 340) {y s : Int} (hy : jR y) (hs : -2147483648 ≤ s ∧ s ≤ 2147483647) : mj_Ok (D + 3) 83 [.ref t, .long (jl y), .int (jn s)] h (fun r => ∃ (X2 : Nat → Nat → Int) (h2 : mj_H), jM g n V X2 h2 ∧ (0 ≤ X2 t 1 ∧ X2 t 1 ≤ 340) ∧ (∀ c, c ≠ t → c ≠ t + 1 → X2 c = X c) ∧ r = (.inl none, h2)) := kT_n M q (jc_83 (kT_ty q) (Nat.le_of_eq M.1) (kT_O M q hx) (if_pos rfl) hy hs)
end MTX
