/-! The reading ends: so much fuel is enough. -/
section RFU
variable {T : Nat → Int} {tm : Nat}
theorem rtk_bd {c : Int} {a b : Nat} (h : rtk T tm c a = some b) : a < b ∧ b ≤ tm := by
  unfold rtk at h
  split at h
  · rename_i q
    have := rskp_ge (T := T) (tm := tm) a
    cases h
    omega
  · cases h
theorem rnm_bd {most : Int} {a : Nat} (ha : a ≤ tm) {z : Bool × Nat} (h : rnm T tm most a = z) (hz : z.1 = true) : a < z.2 ∧ z.2 ≤ tm := by
  have h1 := rskp_ge (T := T) (tm := tm) a
  have h2 := rskp_le (T := T) ha
  have h3 := rdg_le (T := T) (tm - rskp T tm a) (rskp T tm a)
  have h3 : rdgp T tm (rskp T tm a) ≤ rskp T tm a + (tm - rskp T tm a) := h3
  unfold rnm at h
  split at h
  · rename_i q
    subst h
    show a < rdgp T tm (rskp T tm a) ∧ rdgp T tm (rskp T tm a) ≤ tm
    have q1 := q.1.1
    omega
  · subst h
    cases hz
theorem rex_bd {a : Nat} (ha : a ≤ tm) (hz : (rex T tm a).1 = true) : a ≤ (rex T tm a).2 ∧ (rex T tm a).2 ≤ tm := by
  unfold rex at hz ⊢
  rcases hx : rtk T tm 94 a with _ | c
  · exact ⟨rskp_ge a, rskp_le ha⟩
  · rw [hx] at hz
    have h1 := rtk_bd hx
    have h2 := rnm_bd (T := T) h1.2 rfl hz
    exact ⟨by show a ≤ (rnm T tm 12 c).2; omega, h2.2⟩
def rok (tm a : Nat) (z : Option (Bool × Nat)) : Prop := ∃ r, z = some r ∧ (r.1 = true → a < r.2 ∧ r.2 ≤ tm)
abbrev rPd (tm d : Nat) : Nat := 1 + d * (2 * tm + 8)
theorem rok_power {f d a : Nat} (ha : a ≤ tm) (ih : ∀ d2 a2, d = d2 + 1 → a2 ≤ tm → rok tm a2 (rpr0 T tm f 3 d2 a2)) : rok tm a (rpr0 T tm (f + 1) 0 d a) := by
  unfold rpr0
  have hge := rskp_ge (T := T) (tm := tm) a
  have hle := rskp_le (T := T) ha
  split
  · rename_i q
    refine ⟨_, rfl, fun hz => ?_⟩
    have := rex_bd (T := T) (tm := tm) (a := rskp T tm a + 1) (by omega) hz
    omega
  · split
    · rename_i q1 q2
      split
      · exact ⟨_, rfl, fun hz => by cases hz⟩
      · rename_i q3
        obtain ⟨r, hr, hb⟩ := ih (d - 1) (rskp T tm a + 1) (by omega) (by omega)
        rw [hr]
        obtain ⟨b1, b2⟩ := r
        cases b1 with
        | false => exact ⟨_, rfl, fun hz => by cases hz⟩
        | true =>
          have hb := hb rfl
          rcases hx : rtk T tm 41 b2 with _ | e
          · exact ⟨(false, rskp T tm b2), by simp only [hx], fun hz => by cases hz⟩
          · have h1 := rtk_bd hx
            refine ⟨rex T tm e, by simp only [hx], fun hz => ?_⟩
            have := rex_bd (T := T) h1.2 hz
            have hb1 : rskp T tm a + 1 < b2 := hb.1
            omega
    · rcases hx : rnm T tm 9223372036854775807 (rskp T tm a) with ⟨b1, b2⟩
      cases b1 with
      | false => exact ⟨_, rfl, fun hz => by cases hz⟩
      | true =>
        have h1 : rskp T tm a < b2 ∧ b2 ≤ tm := rnm_bd (T := T) hle hx rfl
        refine ⟨rex T tm b2, rfl, fun hz => ?_⟩
        have := rex_bd (T := T) h1.2 hz
        omega
theorem rok_prod {d : Nat} (ih : ∀ f a, a ≤ tm → rPd tm d ≤ f → rok tm a (rpr0 T tm f 0 d a)) : ∀ n a f, a + n = tm → rPd tm d + n + 1 ≤ f → rok tm a (rpr0 T tm f 1 d a) := by
  intro n
  induction n using Nat.strongRecOn with
  | _ n ihn =>
    intro a f ha hf
    obtain ⟨f, rfl⟩ : ∃ g, f = g + 1 := ⟨f - 1, by omega⟩
    unfold rpr0
    obtain ⟨r, hr, hb⟩ := ih f a (by omega) (by omega)
    rw [hr]
    obtain ⟨b1, b2⟩ := r
    cases b1 with
    | false => exact ⟨_, rfl, fun hz => by cases hz⟩
    | true =>
      have hb : a < b2 ∧ b2 ≤ tm := hb rfl
      rcases hx : rtk T tm 42 b2 with _ | e
      · have h1 := rskp_ge (T := T) (tm := tm) b2
        have h2 := rskp_le (T := T) hb.2
        exact ⟨(true, rskp T tm b2), by simp only [hx], fun _ => ⟨by show a < rskp T tm b2; omega, h2⟩⟩
      · have h1 := rtk_bd hx
        obtain ⟨r2, hr2, hb2⟩ := ihn (tm - e) (by omega) e f (by omega) (by omega)
        exact ⟨r2, by simp only [hx]; exact hr2, fun hz => by have := hb2 hz; omega⟩
theorem rok_sum {d : Nat} (ih : ∀ a f, a ≤ tm → rPd tm d + tm + 1 ≤ f → rok tm a (rpr0 T tm f 1 d a)) : ∀ n a f, a + n = tm → rPd tm d + tm + n + 2 ≤ f → rok tm a (rpr0 T tm f 2 d a) := by
  intro n
  induction n using Nat.strongRecOn with
  | _ n ihn =>
    intro a f ha hf
    obtain ⟨f, rfl⟩ : ∃ g, f = g + 1 := ⟨f - 1, by omega⟩
    unfold rpr0
    obtain ⟨r, hr, hb⟩ := ih a f (by omega) (by omega)
    rw [hr]
    obtain ⟨b1, b2⟩ := r
    cases b1 with
    | false => exact ⟨_, rfl, fun hz => by cases hz⟩
    | true =>
      have hb : a < b2 ∧ b2 ≤ tm := hb rfl
      have h1 := rskp_ge (T := T) (tm := tm) b2
      have h2 := rskp_le (T := T) hb.2
      rcases hx : rtk T tm 43 b2 with _ | e
      · rcases hy : rtk T tm 45 (rskp T tm b2) with _ | e
        · exact ⟨(true, rskp T tm b2), by simp only [hx, hy], fun _ => ⟨by show a < rskp T tm b2; omega, h2⟩⟩
        · have h3 := rtk_bd hy
          obtain ⟨r2, hr2, hb2⟩ := ihn (tm - e) (by omega) e f (by omega) (by omega)
          exact ⟨r2, by simp only [hx, hy]; exact hr2, fun hz => by have := hb2 hz; omega⟩
      · have h3 := rtk_bd hx
        obtain ⟨r2, hr2, hb2⟩ := ihn (tm - e) (by omega) e f (by omega) (by omega)
        exact ⟨r2, by simp only [hx]; exact hr2, fun hz => by have := hb2 hz; omega⟩
theorem rok_all : ∀ d, (∀ f a, a ≤ tm → rPd tm d ≤ f → rok tm a (rpr0 T tm f 0 d a)) ∧ (∀ f a, a ≤ tm → rPd tm d + 2 * tm + 3 ≤ f → rok tm a (rpr0 T tm f 3 d a)) := by
  intro d
  induction d with
  | zero =>
    have hP0 : rPd tm 0 = 1 := by
      show 1 + 0 * (2 * tm + 8) = 1
      omega
    have h0 : ∀ f a, a ≤ tm → rPd tm 0 ≤ f → rok tm a (rpr0 T tm f 0 0 a) := fun f a ha hf => by
      obtain ⟨f, rfl⟩ : ∃ g, f = g + 1 := ⟨f - 1, by omega⟩
      exact rok_power ha (fun d2 a2 e => absurd e (by omega))
    refine ⟨h0, fun f a ha hf => ?_⟩
    have h1 := rok_prod (T := T) h0
    have h2 := rok_sum (T := T) (d := 0) (fun a f ha hf => h1 (tm - a) a f (by omega) (by omega))
    obtain ⟨f, rfl⟩ : ∃ g, f = g + 1 := ⟨f - 1, by omega⟩
    unfold rpr0
    rcases hx : rtk T tm 45 a with _ | e
    · have g1 := rskp_ge (T := T) (tm := tm) a
      have g2 := rskp_le (T := T) ha
      obtain ⟨r2, hr2, hb2⟩ := h2 (tm - rskp T tm a) (rskp T tm a) f (by omega) (by omega)
      exact ⟨r2, hr2, fun hz => by have := hb2 hz; omega⟩
    · have g1 := rtk_bd hx
      obtain ⟨r2, hr2, hb2⟩ := h2 (tm - e) e f (by omega) (by omega)
      exact ⟨r2, hr2, fun hz => by have := hb2 hz; omega⟩
  | succ d ih =>
    have hP : rPd tm (d + 1) = rPd tm d + (2 * tm + 8) := by
      show 1 + (d + 1) * (2 * tm + 8) = 1 + d * (2 * tm + 8) + (2 * tm + 8)
      rw [Nat.succ_mul]
      omega
    have h0 : ∀ f a, a ≤ tm → rPd tm (d + 1) ≤ f → rok tm a (rpr0 T tm f 0 (d + 1) a) := fun f a ha hf => by
      obtain ⟨f, rfl⟩ : ∃ g, f = g + 1 := ⟨f - 1, by omega⟩
      exact rok_power ha (fun d2 a2 e ha2 => by
        have e2 : d2 = d := by omega
        subst e2
        exact ih.2 f a2 ha2 (by omega))
    refine ⟨h0, fun f a ha hf => ?_⟩
    have h1 := rok_prod (T := T) h0
    have h2 := rok_sum (T := T) (d := d + 1) (fun a f ha hf => h1 (tm - a) a f (by omega) (by omega))
    obtain ⟨f, rfl⟩ : ∃ g, f = g + 1 := ⟨f - 1, by omega⟩
    unfold rpr0
    rcases hx : rtk T tm 45 a with _ | e
    · have g1 := rskp_ge (T := T) (tm := tm) a
      have g2 := rskp_le (T := T) ha
      obtain ⟨r2, hr2, hb2⟩ := h2 (tm - rskp T tm a) (rskp T tm a) f (by omega) (by omega)
      exact ⟨r2, hr2, fun hz => by have := hb2 hz; omega⟩
    · have g1 := rtk_bd hx
      obtain ⟨r2, hr2, hb2⟩ := h2 (tm - e) e f (by omega) (by omega)
      exact ⟨r2, hr2, fun hz => by have := hb2 hz; omega⟩
end RFU
/-- the whole reading: whether the text is a sum up to where, or where the error is -/
def rdF (tm : Nat) : Nat := rPd tm 8 + 2 * tm + 3
def rdR (T : Nat → Int) (tm : Nat) : Bool × Nat := (rpr0 T tm (rdF tm) 3 8 0).getD (false, 0)
theorem rdR_eq (T : Nat → Int) (tm : Nat) : rpr0 T tm (rdF tm) 3 8 0 = some (rdR T tm) ∧ ((rdR T tm).1 = true → (rdR T tm).2 ≤ tm) := by
  obtain ⟨r, h1, h2⟩ := (rok_all (T := T) (tm := tm) 8).2 (rdF tm) 0 (Nat.zero_le _) (Nat.le_refl _)
  unfold rdR
  rw [h1]
  exact ⟨rfl, fun hz => (h2 hz).2⟩
/-- the error's place of a text, -1 if there is none -/
def rdErr (T : Nat → Int) (tm : Nat) : Int := if (rdR T tm).1 = true then (if rskp T tm (rdR T tm).2 = tm then -1 else ((rskp T tm (rdR T tm).2 : Nat) : Int)) else (((rdR T tm).2 : Nat) : Int)
