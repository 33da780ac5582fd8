/-! The class's Wides, loosely: what is written holds some number, all else stays. -/
noncomputable def BAD : Int := ((jB ^ 1500 : Nat) : Int)
theorem BAD_no : ¬ jnl BAD.natAbs ≤ 1500 := by
  rw [jnl_le_lt]
  unfold BAD
  rw [Int.natAbs_natCast]
  exact Nat.lt_irrefl _
/-- nothing is known of these -/
noncomputable def drt (sl : List Nat) (V : Nat → Int) : Nat → Int := fun x => if x ∈ sl then BAD else V x
theorem drt_ne {sl : List Nat} {V : Nat → Int} {x : Nat} (h : ¬ x ∈ sl) : drt sl V x = V x := if_neg h
theorem drt_in {sl : List Nat} {V : Nat → Int} {x : Nat} (h : x ∈ sl) : drt sl V x = BAD := if_pos h
def isW (sl : List Nat) : Prop := ∀ a, a ∈ sl → cK a = 18 ∨ cK a = 12
noncomputable def kS (sl : List Nat) (a : Nat) : Nat := if a ∈ sl ∨ (1 ≤ a ∧ a - 1 ∈ sl) then cK a else 0
theorem mK_20 : ((List.range 563).all (fun a => !(decide (cK a = 18) || decide (cK a = 12)) || decide (cR a 0 = a + 1))) = true := by decide +kernel
theorem mK_r0 {a : Nat} (h : cK a = 18 ∨ cK a = 12) : cR a 0 = a + 1 := by
  have h1 := jall mK_20 (cK_in (a := a) (by omega))
  rcases h with h | h <;> simpa [h] using h1
theorem kS_c {sl : List Nat} (hs : isW sl) (a : Nat) : (kS sl a = 0 ∧ ¬ a ∈ sl ∧ ¬ (1 ≤ a ∧ a - 1 ∈ sl)) ∨ (a ∈ sl ∧ kS sl a = 18 ∧ cK a = 18) ∨ (a ∈ sl ∧ kS sl a = 12 ∧ cK a = 12) ∨ (1 ≤ a ∧ a - 1 ∈ sl ∧ kS sl a = 1 ∧ cK a = 1) := by
  unfold kS
  by_cases c : a ∈ sl
  · rcases hs a c with e | e
    · exact Or.inr (Or.inl ⟨c, by rw [if_pos (Or.inl c), e], e⟩)
    · exact Or.inr (Or.inr (Or.inl ⟨c, by rw [if_pos (Or.inl c), e], e⟩))
  · by_cases d : 1 ≤ a ∧ a - 1 ∈ sl
    · have e := (mK_w (hs _ d.2)).1
      rw [show a - 1 + 1 = a by omega] at e
      exact Or.inr (Or.inr (Or.inr ⟨d.1, d.2, by rw [if_pos (Or.inr d), e], e⟩))
    · exact Or.inl ⟨if_neg (fun q => q.elim c d), c, d⟩
theorem kS_in {sl : List Nat} {a : Nat} (h : a ∈ sl) : kS sl a = cK a := if_pos (Or.inl h)
theorem kS_ty {sl : List Nat} (hs : isW sl) : jTY (kS sl) cL cR := by
  have w1 : ∀ a, kS sl a = 18 ∨ kS sl a = 12 → a ∈ sl ∧ (cK a = 18 ∨ cK a = 12) := fun a h => by
    rcases kS_c hs a with q | q | q | q
    · omega
    · exact ⟨q.1, Or.inl q.2.2⟩
    · exact ⟨q.1, Or.inr q.2.2⟩
    · omega
  have w2 : ∀ a, kS sl a = 0 ∨ kS sl a = 1 ∨ kS sl a = 18 ∨ kS sl a = 12 := fun a => by
    rcases kS_c hs a with q | q | q | q <;> omega
  have w3 : ∀ a, a ∈ sl → kS sl (a + 1) = 1 := fun a h => by
    unfold kS
    rw [if_pos (Or.inr ⟨by omega, by rw [Nat.add_sub_cancel]; exact h⟩)]
    exact (mK_w (hs a h)).1
  refine ⟨fun a i c h1 h2 => ?_, fun a h1 h2 => ?_, fun a i h1 h2 _ => ?_, fun a h => ?_, fun a h => ?_, fun a h => ?_, fun a b h _ => ?_, fun a h => ?_⟩
  · rcases w2 a with q | q | q | q
    · rw [q] at h1
      simp [jfs] at h1
    · rw [q] at h1
      simp [jfs] at h1
    · rw [q] at h1
      obtain ⟨y1, y2⟩ := w1 a (Or.inl q)
      match i, h1 with
      | 0, h1 => cases h1; rw [mK_r0 y2]; exact w3 a y1
      | 1, h1 => cases h1; omega
      | 2, h1 => cases h1; omega
      | i + 3, h1 => simp [jfs] at h1
    · rw [q] at h1
      obtain ⟨y1, y2⟩ := w1 a (Or.inr q)
      match i, h1 with
      | 0, h1 => cases h1; rw [mK_r0 y2]; exact w3 a y1
      | 1, h1 => cases h1; omega
      | 2, h1 => cases h1; omega
      | 3, h1 => cases h1; omega
      | i + 4, h1 => simp [jfs] at h1
  · rcases kS_c hs a with q | q | q | q
    · omega
    · omega
    · omega
    · have e := (mK_w (hs _ q.2.1)).2.1
      rw [show a - 1 + 1 = a by omega] at e
      rw [q.2.2.1]
      show (0 : Int) ≤ _ ∧ _ ≤ (1000 : Int)
      omega
  · have := w2 a
    omega
  · obtain ⟨y1, y2⟩ := w1 a (Or.inr h)
    have e : cK a = 12 := by rw [← kS_in y1]; exact h
    rw [mK_r0 y2]
    exact mK_d e
  · have := w2 a
    omega
  · have := w2 a
    omega
  · have := w2 a
    omega
  · have := w2 a
    omega
section MLO
variable {g h : mj_H} {n D : Nat} {V : Nat → Int} {X : Nat → Nat → Int} {sl : List Nat}
theorem jan (w : Int32) : ∃ x : Int, -2147483648 ≤ x ∧ x ≤ 2147483647 ∧ Value.int w = .int (jn x) := ⟨w.toInt, (jr_of w).1, by have := (jr_of w).2; omega, by rw [jn_of]⟩
theorem jlim {h : mj_H} {a n : Nat} {q : Nat → Int32} (hq : h[a]? = some (.inl (0, n, fun j => .int (q j)))) (hn : n = cL a) {R : Nat → Nat → Nat} : ∃ e, h[a]? = some e ∧ jCf (kS sl) cL R 0 1 a e := by
  refine ⟨_, hq, ?_⟩
  unfold jCf
  rw [if_pos (by omega), hn]
  refine ⟨fun j => .int (q j), rfl, fun i => ?_⟩
  rw [if_pos (Or.inl rfl)]
  exact ⟨(q i).toInt, jr_of _, by rw [jn_of]⟩
theorem kS_O (M : jM g n V X h) (hs : isW sl) : jO (kS sl) cL cR h n 0 h := by
  have hn := M.1
  refine ⟨hn, by omega, fun a _ => ⟨fun _ => rfl, fun h1 h2 => absurd h1 (by omega)⟩, fun a ha => ?_⟩
  rcases kS_c hs a with q | q | q | q
  · exact absurd q.1 ha
  · obtain ⟨p, s0, g0, hs0, h1, _⟩ := M.T q.2.2
    refine ⟨_, h1, ?_⟩
    rw [q.2.1]
    unfold jCf
    rw [if_neg (by omega)]
    refine ⟨_, rfl, rfl, fun i c hc => ?_⟩
    match i, hc with
    | 0, hc => cases hc; exact ⟨_, rfl, by unfold jfv; rw [if_pos (by omega), mK_r0 (Or.inl q.2.2)]⟩
    | 1, hc => cases hc; exact ⟨_, rfl, by unfold jfv; rw [if_neg (by omega), if_neg (by omega), if_neg (by omega)]; exact ⟨s0, by show (0 : Int) ≤ _; omega, by show _ ≤ (1000 : Int); omega, rfl⟩⟩
    | 2, hc => cases hc; exact ⟨_, rfl, by unfold jfv; rw [if_neg (by omega), if_neg (by omega), if_neg (by omega)]; exact jan g0⟩
    | i + 3, hc => simp [jfs] at hc
  · obtain ⟨p, s0, g0, f0, hs0, h1, _⟩ := M.DT q.2.2
    refine ⟨_, h1, ?_⟩
    rw [q.2.1]
    unfold jCf
    rw [if_neg (by omega)]
    refine ⟨_, rfl, rfl, fun i c hc => ?_⟩
    match i, hc with
    | 0, hc => cases hc; exact ⟨_, rfl, by unfold jfv; rw [if_pos (by omega), mK_r0 (Or.inr q.2.2)]⟩
    | 1, hc => cases hc; exact ⟨_, rfl, by unfold jfv; rw [if_neg (by omega), if_neg (by omega), if_neg (by omega)]; exact ⟨s0, by show (0 : Int) ≤ _; omega, by show _ ≤ (60 : Int); omega, rfl⟩⟩
    | 2, hc => cases hc; exact ⟨_, rfl, by unfold jfv; rw [if_neg (by omega), if_neg (by omega), if_neg (by omega)]; exact jan g0⟩
    | 3, hc => cases hc; exact ⟨_, rfl, by unfold jfv; rw [if_neg (by omega), if_pos rfl]; exact ⟨f0.toInt, jR_of f0, by rw [jl_of]⟩⟩
    | i + 4, hc => simp [jfs] at hc
  · rw [q.2.2.1]
    have e := hs _ q.2.1
    have ea : a - 1 + 1 = a := by omega
    rcases e with e | e
    · obtain ⟨p, _, _, _, _, h2⟩ := M.T e
      rw [ea] at h2
      exact jlim h2 rfl
    · obtain ⟨p, _, _, _, _, _, h2⟩ := M.DT e
      rw [ea] at h2
      exact jlim h2 rfl
theorem jCf_lim {h : mj_H} {a : Nat} {e : mj_E} (h1 : h[a]? = some e) (k : jCf (kS sl) cL cR 0 1 a e) : ∃ q : Nat → Int32, h[a]? = some (.inl (0, cL a, fun j => .int (q j))) := by
  unfold jCf at k
  rw [if_pos (by omega)] at k
  obtain ⟨f, rfl, h2⟩ := k
  have h3 : ∀ i, ∃ w : Int32, f i = .int w := fun i => by
    have := h2 i
    rw [if_pos (Or.inl rfl)] at this
    obtain ⟨x, _, e⟩ := this
    exact ⟨_, e⟩
  refine ⟨fun i => (h3 i).choose, h1.trans ?_⟩
  exact congrArg (fun z : Nat → Value => (some (.inl (0, cL a, z)) : Option mj_E)) (funext fun j => (h3 j).choose_spec)
theorem kS_M (M : jM g n V X h) (hs : isW sl) {h' : mj_H} (o : jO (kS sl) cL cR h n 0 h') : jM g n (drt sl V) X h' := by
  obtain ⟨o1, _, o3, o4⟩ := o
  have hn := M.1
  have lim : ∀ a, a ∈ sl → ∃ q : Nat → Int32, h'[a + 1]? = some (.inl (0, cL (a + 1), fun j => .int (q j))) := fun a ha => by
    have hk : kS sl (a + 1) = 1 := by
      unfold kS
      rw [if_pos (Or.inr ⟨by omega, by rw [Nat.add_sub_cancel]; exact ha⟩)]
      exact (mK_w (hs a ha)).1
    obtain ⟨e, h1, h2⟩ := o4 (a + 1) (by omega)
    rw [hk] at h2
    exact jCf_lim h1 h2
  refine M.up (fun x => x ∈ sl ∨ (1 ≤ x ∧ x - 1 ∈ sl)) (by omega) (fun a ha => ?_) (fun p hp => ?_) (fun a ha => drt_ne (fun q => ha (Or.inl q))) (fun _ _ => rfl) (fun a ha => ?_) (fun a ha => ?_)
  · rcases kS_c hs a with q | q | q | q
    · exact absurd ha (fun y => y.elim q.2.1 q.2.2)
    · omega
    · omega
    · omega
  · have hk : kS sl p = 0 := if_neg hp
    by_cases c : p < h.length
    · exact (o3 p hk).1 c
    · rw [List.getElem?_eq_none (by omega), List.getElem?_eq_none (by omega)]
  · constructor
    · intro q
      rcases q with q | q
      · exact Or.inr ⟨by omega, by rw [Nat.add_sub_cancel]; exact q⟩
      · have e := (mK_w (hs _ q.2)).1
        rw [show a - 1 + 1 = a by omega] at e
        omega
    · intro q
      rcases q with q | q
      · have e := (mK_w ha).1
        have := hs _ q
        omega
      · rw [Nat.add_sub_cancel] at q
        exact Or.inl q.2
  · rcases kS_c hs a with q | q | q | q
    · exact absurd ha (fun y => y.elim q.2.1 q.2.2)
    · rw [q.2.2]
      show wX _ a _ (drt sl V a)
      rw [drt_in q.1]
      refine ⟨?_, fun y => absurd y BAD_no⟩
      obtain ⟨e, h1, h2⟩ := o4 a (by omega)
      rw [q.2.1] at h2
      unfold jCf at h2
      rw [if_neg (by omega)] at h2
      obtain ⟨fs, rfl, hl, hf⟩ := h2
      obtain ⟨v0, e0, k0⟩ := hf 0 101 rfl
      obtain ⟨v1, e1, k1⟩ := hf 1 10 rfl
      obtain ⟨v2, e2, k2⟩ := hf 2 0 rfl
      unfold jfv at k0 k1 k2
      rw [if_pos (by omega), mK_r0 (Or.inl q.2.2)] at k0
      rw [if_neg (by omega), if_neg (by omega), if_neg (by omega)] at k1 k2
      obtain ⟨x1, a1, b1, rfl⟩ := k1
      obtain ⟨x2, _, _, rfl⟩ := k2
      subst k0
      obtain ⟨q2, hq2⟩ := lim a q.1
      refine ⟨q2, x1.toNat, jn x2, ?_, ?_, hq2⟩
      · have : x1 ≤ (1000 : Int) := b1
        omega
      · have a1 : (0 : Int) ≤ x1 := a1
        rw [h1, show ((x1.toNat : Nat) : Int) = x1 by omega]
        match fs, hl, e0, e1, e2 with
        | [_, _, _], _, rfl, rfl, rfl => rfl
    · rw [q.2.2]
      show dX _ a _ (drt sl V a)
      rw [drt_in q.1]
      refine ⟨?_, fun y => absurd y BAD_no⟩
      obtain ⟨e, h1, h2⟩ := o4 a (by omega)
      rw [q.2.1] at h2
      unfold jCf at h2
      rw [if_neg (by omega)] at h2
      obtain ⟨fs, rfl, hl, hf⟩ := h2
      obtain ⟨v0, e0, k0⟩ := hf 0 101 rfl
      obtain ⟨v1, e1, k1⟩ := hf 1 8 rfl
      obtain ⟨v2, e2, k2⟩ := hf 2 0 rfl
      obtain ⟨v3, e3, k3⟩ := hf 3 1 rfl
      unfold jfv at k0 k1 k2 k3
      rw [if_pos (by omega), mK_r0 (Or.inr q.2.2)] at k0
      rw [if_neg (by omega), if_neg (by omega), if_neg (by omega)] at k1 k2
      rw [if_neg (by omega), if_pos rfl] at k3
      obtain ⟨x1, a1, b1, rfl⟩ := k1
      obtain ⟨x2, _, _, rfl⟩ := k2
      obtain ⟨x3, _, rfl⟩ := k3
      subst k0
      obtain ⟨q2, hq2⟩ := lim a q.1
      refine ⟨q2, x1.toNat, jn x2, jl x3, ?_, ?_, hq2⟩
      · have : x1 ≤ (60 : Int) := b1
        omega
      · have a1 : (0 : Int) ≤ x1 := a1
        rw [h1, show ((x1.toNat : Nat) : Int) = x1 by omega]
        match fs, hl, e0, e1, e2, e3 with
        | [_, _, _, _], _, rfl, rfl, rfl, rfl => rfl
    · rw [q.2.2.2]
      show _ ∨ _
      exact Or.inl (hs _ q.2.1)
/-- a contract over kinds, for some Wides -/
theorem mZ_of {j : Nat} {as : List Value} {Vp : Option Value → Prop} (M : jM g n V X h) (hs : isW sl) (c : mj_Ok D j as h (jQ (kS sl) cL cR h n 0 [] Vp)) : mj_Ok D j as h (fun r => ∃ v h', Vp v ∧ jM g n (drt sl V) X h' ∧ r = (.inl v, h')) := c.to fun r hr => by
  match r, hr with
  | (.inl v, h'), hr => exact ⟨v, h', hr.1, kS_M M hs hr.2, rfl⟩
  | (.inr i, h'), hr => exact absurd hr.1 (by simp)
theorem mZ_pof {j : Nat} {as : List Value} {Vp : Option Value → Prop} (c : mj_Ok D j as h (jQp (kS sl) cL cR h n 0 h [] Vp)) : mj_Ok D j as h (fun r => ∃ v, Vp v ∧ r = (.inl v, h)) := c.to fun r hr => by
  match r, hr with
  | (.inl v, h'), hr => exact ⟨v, hr.1, by rw [show h' = h from hr.2]⟩
  | (.inr i, h'), hr => exact absurd hr.1 (by simp)
theorem isW1 {c : Nat} (kc : cK c = 18 ∨ cK c = 12) : isW [c] := fun a ha => by
  rw [List.mem_singleton.mp ha]
  exact kc
theorem isW2 {c a : Nat} (kc : cK c = 18 ∨ cK c = 12) (ka : cK a = 18 ∨ cK a = 12) : isW [c, a] := fun x hx => by
  rcases List.mem_cons.mp hx with e | e
  · rw [e]
    exact kc
  · rw [List.mem_singleton.mp e]
    exact ka
theorem isW3 {c a b : Nat} (kc : cK c = 18 ∨ cK c = 12) (ka : cK a = 18 ∨ cK a = 12) (kb : cK b = 18 ∨ cK b = 12) : isW [c, a, b] := fun x hx => by
  rcases List.mem_cons.mp hx with e | e
  · rw [e]
    exact kc
  · exact isW2 ka kb x e
theorem mZ_n {j : Nat} {as : List Value} (M : jM g n V X h) (hs : isW sl) (c : mj_Ok D j as h (jQ (kS sl) cL cR h n 0 [] jV0)) : mj_Ok D j as h (fun r => ∃ h', jM g n (drt sl V) X h' ∧ r = (.inl none, h')) := (mZ_of M hs c).to fun r hr => by
  obtain ⟨v, h', e, m, rfl⟩ := hr
  rw [show v = none from e]
  exact ⟨h', m, rfl⟩
theorem mZ_86 (M : jM g n V X h) {c : Nat} {v : Int} (kc : cK c = 18) (hv : jR v) : mj_Ok (D + 1) 86 [.ref c, .long (jl v)] h (fun r => ∃ h', jM g n (drt [c] V) X h' ∧ r = (.inl none, h')) := mZ_n M (isW1 (Or.inl kc)) (jc_86 (kS_ty (isW1 (Or.inl kc))) (Nat.le_of_eq M.1) (kS_O M (isW1 (Or.inl kc))) ((kS_in (by simp)).trans kc) hv)
theorem mZ_87 (M : jM g n V X h) {c a : Nat} (kc : cK c = 18) (ka : cK a = 18) : mj_Ok (D + 1) 87 [.ref c, .ref a] h (fun r => ∃ h', jM g n (drt [c, a] V) X h' ∧ r = (.inl none, h')) := mZ_n M (isW2 (Or.inl kc) (Or.inl ka)) (jc_87 (kS_ty (isW2 (Or.inl kc) (Or.inl ka))) (Nat.le_of_eq M.1) (kS_O M (isW2 (Or.inl kc) (Or.inl ka))) ((kS_in (by simp)).trans kc) ((kS_in (by simp)).trans ka))
theorem mZ_88 (M : jM g n V X h) {c a : Nat} (kc : cK c = 18) (ka : cK a = 18) : mj_Ok (D + 2) 88 [.ref c, .ref a] h (fun r => ∃ h', jM g n (drt [c, a] V) X h' ∧ r = (.inl none, h')) := mZ_n M (isW2 (Or.inl kc) (Or.inl ka)) (jc_88 (kS_ty (isW2 (Or.inl kc) (Or.inl ka))) (Nat.le_of_eq M.1) (kS_O M (isW2 (Or.inl kc) (Or.inl ka))) ((kS_in (by simp)).trans kc) ((kS_in (by simp)).trans ka))
theorem mZ_91 (M : jM g n V X h) {c a : Nat} {f : Int} (kc : cK c = 18) (ka : cK a = 18) (hf : -2147483648 ≤ f ∧ f ≤ 2147483647) : mj_Ok (D + 2) 91 [.ref c, .ref a, .int (jn f)] h (fun r => ∃ h', jM g n (drt [c, a] V) X h' ∧ r = (.inl none, h')) := mZ_n M (isW2 (Or.inl kc) (Or.inl ka)) (jc_91 (kS_ty (isW2 (Or.inl kc) (Or.inl ka))) (Nat.le_of_eq M.1) (kS_O M (isW2 (Or.inl kc) (Or.inl ka))) ((kS_in (by simp)).trans kc) ((kS_in (by simp)).trans ka) hf)
theorem mZ_95 (M : jM g n V X h) {c a b : Nat} (kc : cK c = 18) (ka : cK a = 18) (kb : cK b = 18) : mj_Ok (D + 1) 95 [.ref c, .ref a, .ref b] h (fun r => ∃ h', jM g n (drt [c, a, b] V) X h' ∧ r = (.inl none, h')) := mZ_n M (isW3 (Or.inl kc) (Or.inl ka) (Or.inl kb)) (jc_95 (kS_ty (isW3 (Or.inl kc) (Or.inl ka) (Or.inl kb))) (Nat.le_of_eq M.1) (kS_O M (isW3 (Or.inl kc) (Or.inl ka) (Or.inl kb))) ((kS_in (by simp)).trans kc) ((kS_in (by simp)).trans ka) ((kS_in (by simp)).trans kb))
theorem mZ_96 (M : jM g n V X h) {c : Nat} {v : Int} (kc : cK c = 18) (hv : jR v) : mj_Ok (D + 1) 96 [.ref c, .long (jl v)] h (fun r => ∃ h', jM g n (drt [c] V) X h' ∧ r = (.inl none, h')) := mZ_n M (isW1 (Or.inl kc)) (jc_96 (kS_ty (isW1 (Or.inl kc))) (Nat.le_of_eq M.1) (kS_O M (isW1 (Or.inl kc))) ((kS_in (by simp)).trans kc) hv)
theorem mZ_97 (M : jM g n V X h) {c : Nat} {v : Int} (kc : cK c = 18) (hv : jR v) : mj_Ok (D + 1) 97 [.ref c, .long (jl v)] h (fun r => ∃ h', jM g n (drt [c] V) X h' ∧ r = (.inl none, h')) := mZ_n M (isW1 (Or.inl kc)) (jc_97 (kS_ty (isW1 (Or.inl kc))) (Nat.le_of_eq M.1) (kS_O M (isW1 (Or.inl kc))) ((kS_in (by simp)).trans kc) hv)
theorem mZ_30 (M : jM g n V X h) {c a : Nat} (kc : cK c = 12) (ka : cK a = 18) : mj_Ok (D + 1) 30 [.ref c, .ref a] h (fun r => ∃ h', jM g n (drt [c, a] V) X h' ∧ r = (.inl none, h')) := mZ_n M (isW2 (Or.inr kc) (Or.inl ka)) (jc_30 (kS_ty (isW2 (Or.inr kc) (Or.inl ka))) (Nat.le_of_eq M.1) (kS_O M (isW2 (Or.inr kc) (Or.inl ka))) ((kS_in (by simp)).trans kc) ((kS_in (by simp)).trans ka))
theorem mZ_31 (M : jM g n V X h) {c a b : Nat} (kc : cK c = 12) (ka : cK a = 18) (kb : cK b = 18) : mj_Ok (D + 2) 31 [.ref c, .ref a, .ref b] h (fun r => ∃ h', jM g n (drt [c, a, b] V) X h' ∧ r = (.inl none, h')) := mZ_n M (isW3 (Or.inr kc) (Or.inl ka) (Or.inl kb)) (jc_31 (kS_ty (isW3 (Or.inr kc) (Or.inl ka) (Or.inl kb))) (Nat.le_of_eq M.1) (kS_O M (isW3 (Or.inr kc) (Or.inl ka) (Or.inl kb))) ((kS_in (by simp)).trans kc) ((kS_in (by simp)).trans ka) ((kS_in (by simp)).trans kb))
theorem mZ_100 (M : jM g n V X h) {c : Nat} (kc : cK c = 18) : mj_Ok (D + 1) 100 [.ref c] h (fun r => ∃ z : Int, jR z ∧ r = (.inl (some (.long (jl z))), h)) := (mZ_pof (jc_100 (kS_ty (isW1 (Or.inl kc))) (Nat.le_of_eq M.1) (kS_O M (isW1 (Or.inl kc))) ((kS_in (by simp)).trans kc))).to fun r hr => by
  obtain ⟨v, ⟨z, hz, rfl⟩, rfl⟩ := hr
  exact ⟨z, hz, rfl⟩
theorem mZ_98 (M : jM g n V X h) {c : Nat} (kc : cK c = 18) : mj_Ok (D + 2) 98 [.ref c] h (fun r => ∃ z : Int, (-2147483648 ≤ z ∧ z ≤ 2147483647) ∧ r = (.inl (some (.int (jn z))), h)) := (mZ_pof (jc_98 (kS_ty (isW1 (Or.inl kc))) (Nat.le_of_eq M.1) (kS_O M (isW1 (Or.inl kc))) ((kS_in (by simp)).trans kc))).to fun r hr => by
  obtain ⟨v, ⟨z, h1, h2, rfl⟩, rfl⟩ := hr
  exact ⟨z, ⟨h1, h2⟩, rfl⟩
theorem mZ_99 (M : jM g n V X h) {c : Nat} {p : Int} (kc : cK c = 18) (hp : -2147483648 ≤ p ∧ p ≤ 2147483647) : mj_Ok (D + 2) 99 [.ref c, .int (jn p)] h (fun r => ∃ z : Int, (-2147483648 ≤ z ∧ z ≤ 2147483647) ∧ r = (.inl (some (.int (jn z))), h)) := (mZ_pof (jc_99 (kS_ty (isW1 (Or.inl kc))) (Nat.le_of_eq M.1) (kS_O M (isW1 (Or.inl kc))) ((kS_in (by simp)).trans kc) hp)).to fun r hr => by
  obtain ⟨v, ⟨z, h1, h2, rfl⟩, rfl⟩ := hr
  exact ⟨z, ⟨h1, h2⟩, rfl⟩
end MLO
section MLR
variable {g h : mj_H} {n D pc nm r4 r5 : Nat} {V : Nat → Int} {X : Nat → Nat → Int} {M : mj_M} {loc : mj_L} {st : List Value} {Q : mj_R → Prop}
/-- a sign is read, is written -/
theorem mZ_sg (m : jM g n V X h) {a r3 : Nat} (ka : cK a = 18) (hc : M.2.2.2.2.1 pc = some (.getfield nm, 8, 2, r3, r4, r5)) (q : ∀ z, -2147483648 ≤ z ∧ z ≤ 2147483647 → mj_T D M (pc + 3) loc (.int (jn z) :: st) h Q) : mj_T D M pc loc (.ref a :: st) h Q := by
  obtain ⟨p, _, g0, _, h1, _⟩ := m.T ka
  exact mj_T.gfl hc h1 rfl (jT.anyI q)
theorem mZ_psg (m : jM g n V X h) {a : Nat} {w : Int} (ka : cK a = 18) (hc : M.2.2.2.2.1 pc = some (.putfield nm, 8, 2, 0, r4, r5)) (q : ∀ h', jM g n (drt [a] V) X h' → mj_T D M (pc + 3) loc st h' Q) : mj_T D M pc loc (.int (jn w) :: .ref a :: st) h Q := by
  obtain ⟨p, s0, g0, hs0, h1, h2⟩ := m.T ka
  have hl := (m.T ka).lt
  refine mj_T.pfl hc h1 (by decide : 2 < 3) rfl (q _ (m.up (fun x => x = a ∨ x = a + 1) (by rw [List.length_set]) (fun x hx => ?_) (fun x hx => ?_) (fun x hx => drt_ne (fun y => hx (Or.inl (List.mem_singleton.mp y)))) (fun _ _ => rfl) (fun x hx => ?_) (fun x hx => ?_)))
  · have := mK_w (Or.inl ka)
    rcases hx with e | e <;> subst e <;> omega
  · exact List.getElem?_set_ne (fun e => hx (Or.inl e.symm))
  · have k1 := mK_w (Or.inl ka)
    have k2 := mK_w hx
    constructor
    · intro y
      rcases y with e | e
      · exact Or.inr (by omega)
      · subst e
        omega
    · intro y
      rcases y with e | e
      · subst e
        omega
      · exact Or.inl (by omega)
  · have k1 := mK_w (Or.inl ka)
    rcases hx with e | e
    · subst e
      rw [ka]
      show wX _ x _ (drt [x] V x)
      rw [drt_in (by simp)]
      refine ⟨⟨p, s0, jn w, hs0, ?_, ?_⟩, fun y => absurd y BAD_no⟩
      · rw [List.getElem?_set_self (by omega)]
        rfl
      · rw [List.getElem?_set_ne (by omega)]
        exact h2
    · subst e
      rw [k1.1]
      show _ ∨ _
      exact Or.inl (Or.inl ka)
end MLR
