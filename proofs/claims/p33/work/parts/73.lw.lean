/-! The law's heap: the class's cells by kinds, the law's own cell for answers; what the law's small methods do. -/
/-- the cells behind q are what exceptions left -/
def jXc (q : Nat) (h : mj_H) : Prop := ∀ a, q < a → a < h.length → h[a]? = some (.inr (99, [.null, .null, .null, .null, .null, .null]))
/-- q is the law's cell for answers -/
def jLw (K L : Nat → Nat) (R : Nat → Nat → Nat) (q n : Nat) (tm : Int) (h : mj_H) : Prop := jO K L R h n tm h ∧ (K q = 0 ∧ jXc q h) ∧ ∃ f : Nat → Value, h[q]? = some (.inl (1, 1, f))
/-- the other cells are as before -/
def jLf (K : Nat → Nat) (q : Nat) (h h' : mj_H) : Prop := ∀ a, K a = 0 → a ≠ q → a < h.length → h'[a]? = h[a]?
def jWr (K L : Nat → Nat) (R : Nat → Nat → Nat) (q n : Nat) (tm : Int) (h : mj_H) (r : mj_R) : Prop := ∃ k : Int, r.1 = .inl (some (.int (jn k))) ∧ (∃ n', n ≤ n' ∧ n' ≤ n + 1 ∧ jLw K L R q n' tm r.2) ∧ jLf K q h r.2
section JLW
variable {D pc : Nat} {M : mj_M} {loc : mj_L} {st : List Value} {h h' g : mj_H} {Q : mj_R → Prop} {r1 r2 r3 r4 r5 : Nat}
variable {K L : Nat → Nat} {R : Nat → Nat → Nat} {q n : Nat} {tm tm' : Int}
theorem jO.self (o : jO K L R g n tm h) : jO K L R h n tm h := ⟨o.1, o.2.1, fun _ _ => ⟨fun _ => rfl, fun a b => absurd (o.1 ▸ a) (by have := o.1; omega)⟩, o.2.2.2⟩
theorem jO.keep (o : jO K L R g n tm h) (hk : ∀ a, K a ≠ 0 → h'[a]? = h[a]?) : jO K L R h' h'.length tm h' := ⟨rfl, o.2.1, fun _ _ => ⟨fun _ => rfl, fun a b => absurd a (by omega)⟩, fun a ha => by rw [hk a ha]; exact o.2.2.2 a ha⟩
theorem jXc.k {a : Nat} (x : jXc q h) (o : jO K L R g n tm h) (ha : q < a) : K a = 0 := by
  by_cases c : K a = 0
  · exact c
  · obtain ⟨e, h1, h2⟩ := o.2.2.2 a c
    rw [x a ha (List.getElem?_eq_some_iff.mp h1).1] at h1
    cases h1
    unfold jCf at h2
    split at h2
    · obtain ⟨f, h3, _⟩ := h2
      cases h3
    · obtain ⟨fs, h3, h4, _⟩ := h2
      injection h3 with h3
      injection h3 with h5 h6
      subst h6
      have h7 : K a = 109 := by
        unfold jkc at h5
        split at h5 <;> omega
      rw [h7] at h4
      exact absurd h4 (by decide)
theorem jLw.thr {m : Nat} (w : jLw K L R q n tm h) (o : jO K L R h m tm' h') : jLw K L R q m tm' h' := by
  refine ⟨o.self, ⟨w.2.1.1, fun a ha hl => ?_⟩, ?_⟩
  · have ka := w.2.1.2.k w.1 ha
    by_cases c : a < h.length
    · rw [(o.2.2.1 a ka).1 c]
      exact w.2.1.2 a ha c
    · exact (o.2.2.1 a ka).2 (by omega) (by rw [← o.1]; exact hl)
  obtain ⟨f, hf⟩ := w.2.2
  exact ⟨f, by rw [(o.2.2.1 q w.2.1.1).1 (List.getElem?_eq_some_iff.mp hf).1]; exact hf⟩
theorem jLf.of {m : Nat} (o : jO K L R h m tm' h') : jLf K q h h' := fun a ha _ hl => (o.2.2.1 a ha).1 hl
theorem jW.last {x : Int64} {m : Nat} (w : jLw K L R q n tm h) (o : jO K L R h m tm' h') (hc : M.2.2.2.2.1 pc = some (.lastore, r1, r2, r3, r4, r5)) (k : ∀ h'', jLw K L R q m tm' h'' → jLf K q h h'' → (h''[q]? = some (.inl (1, 1, fun _ => .long x)) ∨ ∃ f : Nat → Value, f 0 = .long x ∧ h''[q]? = some (.inl (1, 1, f))) → mj_T D M (pc + 1) loc st h'' Q) : mj_T D M pc loc (.long x :: .int (jn 0) :: .ref q :: st) h' Q := by
  obtain ⟨_, kq, f, hf⟩ := w.thr o
  have hl := (List.getElem?_eq_some_iff.mp hf).1
  refine mj_T.step hc rfl (pc' := pc + 1) (loc' := loc) (st' := st) (h' := h'.set q (.inl (1, 1, updV f 0 (.long x)))) ?_ (k _ ?_ ?_ ?_)
  · simp only [mj_step, hf]
    rfl
  · refine ⟨?_, ⟨kq.1, fun a ha hl2 => by rw [List.getElem?_set_ne (by omega)]; exact kq.2 a ha (by rw [List.length_set] at hl2; exact hl2)⟩, ⟨_, List.getElem?_set_self hl⟩⟩
    have := o.keep (h' := h'.set q (.inl (1, 1, updV f 0 (.long x)))) (fun a ha => by rw [List.getElem?_set_ne (by intro e; rw [← e] at ha; exact ha kq.1)])
    rw [List.length_set, o.1] at this
    exact this
  · intro a ha hne hl2
    rw [List.getElem?_set_ne (fun e => hne e.symm)]
    exact (o.2.2.1 a ha).1 hl2
  · exact Or.inr ⟨_, rfl, List.getElem?_set_self hl⟩
theorem jQp.toQ {A : List Nat} {V : Option Value → Prop} {r : mj_R} (o : jO K L R g n tm h) (k : jQp K L R g n tm h A V r) : jQ K L R g n tm A V r := by
  obtain ⟨r1, r2⟩ := r
  cases r1 with
  | inl v =>
    obtain ⟨k1, k2⟩ := k
    have k2 : r2 = h := k2
    subst k2
    exact ⟨k1, o⟩
  | inr i => exact k
end JLW
/-! The law's small methods, each around a call of the class. -/
-- PolyRegistersLaw.add(LPolyRegisters;III[J)I
theorem jw_310 {D n p0 q : Nat} {tm : Int} {h : mj_H} {K L : Nat → Nat} {R : Nat → Nat → Nat} {p1 : Int} {p2 : Int} {p3 : Int} (ty : jTY K L R) (w : jLw K L R q n tm h) (kp0 : K p0 = 19) (rp1 : -2147483648 ≤ p1 ∧ p1 ≤ 2147483647) (rp2 : -2147483648 ≤ p2 ∧ p2 ≤ 2147483647) (rp3 : -2147483648 ≤ p3 ∧ p3 ≤ 2147483647) : mj_Ok (D + 6) 310 [.ref p0, .int (jn p1), .int (jn p2), .int (jn p3), .ref q] h (jWr K L R q n tm h) := by
  have hg : h.length ≤ n := Nat.le_of_eq w.1.1
  refine mj_Ok.of (M := mj_m310) (loc := [some (.ref p0), some (.int (jn p1)), some (.int (jn p2)), some (.int (jn p3)), some (.ref q), none]) rfl rfl rfl ?_
  iterate 6 refine mj_T.pl rfl rfl rfl rfl ?_
  refine mj_T.call rfl rfl (Nat.le_of_ble_eq_true rfl) (Nat.le_of_ble_eq_true rfl) (jrv_of w.1 kp0 (by decide) rfl (by decide) rfl _) rfl (jc_102 (D := D) ty hg w.1 kp0 rp1 rp2 rp3) (fun v h1 hq => ?_) (fun i h1 hq => ?_)
  · obtain ⟨hv, o1⟩ := hq
    obtain ⟨z, _, _, rfl⟩ := hv
    refine mj_T.step rfl rfl rfl ?_
    refine jW.last w o1 rfl (fun h2 w2 f2 _ => ?_)
    iterate 2 refine mj_T.pl rfl rfl rfl rfl ?_
    exact mj_T.ret rfl rfl rfl ⟨0, rfl, ⟨n, by omega, by omega, w2⟩, f2⟩
  · obtain ⟨hi, o1⟩ := hq
    simp only [List.mem_cons, List.not_mem_nil, or_false] at hi
    rcases hi with hi | hi
    · subst hi
      refine Or.inr ⟨5, 17, rfl, (Nat.le_of_ble_eq_true rfl), ?_⟩
      refine mj_T.pl rfl rfl rfl rfl ?_
      exact mj_T.ret rfl rfl rfl ⟨1, rfl, ⟨n + 1, by omega, by omega, w.thr o1⟩, jLf.of o1⟩
    · subst hi
      refine Or.inr ⟨5, 21, rfl, (Nat.le_of_ble_eq_true rfl), ?_⟩
      refine mj_T.pl rfl rfl rfl rfl ?_
      exact mj_T.ret rfl rfl rfl ⟨2, rfl, ⟨n + 1, by omega, by omega, w.thr o1⟩, jLf.of o1⟩
-- PolyRegistersLaw.subtract(LPolyRegisters;III[J)I
theorem jw_311 {D n p0 q : Nat} {tm : Int} {h : mj_H} {K L : Nat → Nat} {R : Nat → Nat → Nat} {p1 : Int} {p2 : Int} {p3 : Int} (ty : jTY K L R) (w : jLw K L R q n tm h) (kp0 : K p0 = 19) (rp1 : -2147483648 ≤ p1 ∧ p1 ≤ 2147483647) (rp2 : -2147483648 ≤ p2 ∧ p2 ≤ 2147483647) (rp3 : -2147483648 ≤ p3 ∧ p3 ≤ 2147483647) : mj_Ok (D + 6) 311 [.ref p0, .int (jn p1), .int (jn p2), .int (jn p3), .ref q] h (jWr K L R q n tm h) := by
  have hg : h.length ≤ n := Nat.le_of_eq w.1.1
  refine mj_Ok.of (M := mj_m311) (loc := [some (.ref p0), some (.int (jn p1)), some (.int (jn p2)), some (.int (jn p3)), some (.ref q), none]) rfl rfl rfl ?_
  iterate 6 refine mj_T.pl rfl rfl rfl rfl ?_
  refine mj_T.call rfl rfl (Nat.le_of_ble_eq_true rfl) (Nat.le_of_ble_eq_true rfl) (jrv_of w.1 kp0 (by decide) rfl (by decide) rfl _) rfl (jc_103 (D := D) ty hg w.1 kp0 rp1 rp2 rp3) (fun v h1 hq => ?_) (fun i h1 hq => ?_)
  · obtain ⟨hv, o1⟩ := hq
    obtain ⟨z, _, _, rfl⟩ := hv
    refine mj_T.step rfl rfl rfl ?_
    refine jW.last w o1 rfl (fun h2 w2 f2 _ => ?_)
    iterate 2 refine mj_T.pl rfl rfl rfl rfl ?_
    exact mj_T.ret rfl rfl rfl ⟨0, rfl, ⟨n, by omega, by omega, w2⟩, f2⟩
  · obtain ⟨hi, o1⟩ := hq
    simp only [List.mem_cons, List.not_mem_nil, or_false] at hi
    rcases hi with hi | hi
    · subst hi
      refine Or.inr ⟨5, 17, rfl, (Nat.le_of_ble_eq_true rfl), ?_⟩
      refine mj_T.pl rfl rfl rfl rfl ?_
      exact mj_T.ret rfl rfl rfl ⟨1, rfl, ⟨n + 1, by omega, by omega, w.thr o1⟩, jLf.of o1⟩
    · subst hi
      refine Or.inr ⟨5, 21, rfl, (Nat.le_of_ble_eq_true rfl), ?_⟩
      refine mj_T.pl rfl rfl rfl rfl ?_
      exact mj_T.ret rfl rfl rfl ⟨2, rfl, ⟨n + 1, by omega, by omega, w.thr o1⟩, jLf.of o1⟩
-- PolyRegistersLaw.multiply(LPolyRegisters;III[J)I
theorem jw_312 {D n p0 q : Nat} {tm : Int} {h : mj_H} {K L : Nat → Nat} {R : Nat → Nat → Nat} {p1 : Int} {p2 : Int} {p3 : Int} (ty : jTY K L R) (w : jLw K L R q n tm h) (kp0 : K p0 = 19) (rp1 : -2147483648 ≤ p1 ∧ p1 ≤ 2147483647) (rp2 : -2147483648 ≤ p2 ∧ p2 ≤ 2147483647) (rp3 : -2147483648 ≤ p3 ∧ p3 ≤ 2147483647) : mj_Ok (D + 6) 312 [.ref p0, .int (jn p1), .int (jn p2), .int (jn p3), .ref q] h (jWr K L R q n tm h) := by
  have hg : h.length ≤ n := Nat.le_of_eq w.1.1
  refine mj_Ok.of (M := mj_m312) (loc := [some (.ref p0), some (.int (jn p1)), some (.int (jn p2)), some (.int (jn p3)), some (.ref q), none]) rfl rfl rfl ?_
  iterate 6 refine mj_T.pl rfl rfl rfl rfl ?_
  refine mj_T.call rfl rfl (Nat.le_of_ble_eq_true rfl) (Nat.le_of_ble_eq_true rfl) (jrv_of w.1 kp0 (by decide) rfl (by decide) rfl _) rfl (jc_104 (D := D) ty hg w.1 kp0 rp1 rp2 rp3) (fun v h1 hq => ?_) (fun i h1 hq => ?_)
  · obtain ⟨hv, o1⟩ := hq
    obtain ⟨z, _, _, rfl⟩ := hv
    refine mj_T.step rfl rfl rfl ?_
    refine jW.last w o1 rfl (fun h2 w2 f2 _ => ?_)
    iterate 2 refine mj_T.pl rfl rfl rfl rfl ?_
    exact mj_T.ret rfl rfl rfl ⟨0, rfl, ⟨n, by omega, by omega, w2⟩, f2⟩
  · obtain ⟨hi, o1⟩ := hq
    simp only [List.mem_cons, List.not_mem_nil, or_false] at hi
    rcases hi with hi | hi
    · subst hi
      refine Or.inr ⟨5, 17, rfl, (Nat.le_of_ble_eq_true rfl), ?_⟩
      refine mj_T.pl rfl rfl rfl rfl ?_
      exact mj_T.ret rfl rfl rfl ⟨1, rfl, ⟨n + 1, by omega, by omega, w.thr o1⟩, jLf.of o1⟩
    · subst hi
      refine Or.inr ⟨5, 21, rfl, (Nat.le_of_ble_eq_true rfl), ?_⟩
      refine mj_T.pl rfl rfl rfl rfl ?_
      exact mj_T.ret rfl rfl rfl ⟨2, rfl, ⟨n + 1, by omega, by omega, w.thr o1⟩, jLf.of o1⟩
-- PolyRegistersLaw.power(LPolyRegisters;III[J)I
theorem jw_313 {D n p0 q : Nat} {tm : Int} {h : mj_H} {K L : Nat → Nat} {R : Nat → Nat → Nat} {p1 : Int} {p2 : Int} {p3 : Int} (ty : jTY K L R) (w : jLw K L R q n tm h) (kp0 : K p0 = 19) (rp1 : -2147483648 ≤ p1 ∧ p1 ≤ 2147483647) (rp2 : -2147483648 ≤ p2 ∧ p2 ≤ 2147483647) (rp3 : -2147483648 ≤ p3 ∧ p3 ≤ 2147483647) : mj_Ok (D + 6) 313 [.ref p0, .int (jn p1), .int (jn p2), .int (jn p3), .ref q] h (jWr K L R q n tm h) := by
  have hg : h.length ≤ n := Nat.le_of_eq w.1.1
  refine mj_Ok.of (M := mj_m313) (loc := [some (.ref p0), some (.int (jn p1)), some (.int (jn p2)), some (.int (jn p3)), some (.ref q), none]) rfl rfl rfl ?_
  iterate 6 refine mj_T.pl rfl rfl rfl rfl ?_
  refine mj_T.call rfl rfl (Nat.le_of_ble_eq_true rfl) (Nat.le_of_ble_eq_true rfl) (jrv_of w.1 kp0 (by decide) rfl (by decide) rfl _) rfl (jc_105 (D := D) ty hg w.1 kp0 rp1 rp2 rp3) (fun v h1 hq => ?_) (fun i h1 hq => ?_)
  · obtain ⟨hv, o1⟩ := hq
    obtain ⟨z, _, _, rfl⟩ := hv
    refine mj_T.step rfl rfl rfl ?_
    refine jW.last w o1 rfl (fun h2 w2 f2 _ => ?_)
    iterate 2 refine mj_T.pl rfl rfl rfl rfl ?_
    exact mj_T.ret rfl rfl rfl ⟨0, rfl, ⟨n, by omega, by omega, w2⟩, f2⟩
  · obtain ⟨hi, o1⟩ := hq
    simp only [List.mem_cons, List.not_mem_nil, or_false] at hi
    rcases hi with hi | hi | hi
    · subst hi
      refine Or.inr ⟨5, 17, rfl, (Nat.le_of_ble_eq_true rfl), ?_⟩
      refine mj_T.pl rfl rfl rfl rfl ?_
      exact mj_T.ret rfl rfl rfl ⟨1, rfl, ⟨n + 1, by omega, by omega, w.thr o1⟩, jLf.of o1⟩
    · subst hi
      refine Or.inr ⟨5, 21, rfl, (Nat.le_of_ble_eq_true rfl), ?_⟩
      refine mj_T.pl rfl rfl rfl rfl ?_
      exact mj_T.ret rfl rfl rfl ⟨2, rfl, ⟨n + 1, by omega, by omega, w.thr o1⟩, jLf.of o1⟩
    · subst hi
      refine Or.inr ⟨5, 25, rfl, (Nat.le_of_ble_eq_true rfl), ?_⟩
      refine mj_T.pl rfl rfl rfl rfl ?_
      exact mj_T.ret rfl rfl rfl ⟨3, rfl, ⟨n + 1, by omega, by omega, w.thr o1⟩, jLf.of o1⟩
-- PolyRegistersLaw.derive(LPolyRegisters;II[J)I
theorem jw_314 {D n p0 q : Nat} {tm : Int} {h : mj_H} {K L : Nat → Nat} {R : Nat → Nat → Nat} {p1 : Int} {p2 : Int} (ty : jTY K L R) (w : jLw K L R q n tm h) (kp0 : K p0 = 19) (rp1 : -2147483648 ≤ p1 ∧ p1 ≤ 2147483647) (rp2 : -2147483648 ≤ p2 ∧ p2 ≤ 2147483647) : mj_Ok (D + 6) 314 [.ref p0, .int (jn p1), .int (jn p2), .ref q] h (jWr K L R q n tm h) := by
  have hg : h.length ≤ n := Nat.le_of_eq w.1.1
  refine mj_Ok.of (M := mj_m314) (loc := [some (.ref p0), some (.int (jn p1)), some (.int (jn p2)), some (.ref q), none]) rfl rfl rfl ?_
  iterate 5 refine mj_T.pl rfl rfl rfl rfl ?_
  refine mj_T.call rfl rfl (Nat.le_of_ble_eq_true rfl) (Nat.le_of_ble_eq_true rfl) (jrv_of w.1 kp0 (by decide) rfl (by decide) rfl _) rfl (jc_106 (D := D) ty hg w.1 kp0 rp1 rp2) (fun v h1 hq => ?_) (fun i h1 hq => ?_)
  · obtain ⟨hv, o1⟩ := hq
    obtain ⟨z, _, _, rfl⟩ := hv
    refine mj_T.step rfl rfl rfl ?_
    refine jW.last w o1 rfl (fun h2 w2 f2 _ => ?_)
    iterate 2 refine mj_T.pl rfl rfl rfl rfl ?_
    exact mj_T.ret rfl rfl rfl ⟨0, rfl, ⟨n, by omega, by omega, w2⟩, f2⟩
  · obtain ⟨hi, o1⟩ := hq
    simp only [List.mem_cons, List.not_mem_nil, or_false] at hi
    rcases hi with hi | hi
    · subst hi
      refine Or.inr ⟨4, 15, rfl, (Nat.le_of_ble_eq_true rfl), ?_⟩
      refine mj_T.pl rfl rfl rfl rfl ?_
      exact mj_T.ret rfl rfl rfl ⟨1, rfl, ⟨n + 1, by omega, by omega, w.thr o1⟩, jLf.of o1⟩
    · subst hi
      refine Or.inr ⟨4, 19, rfl, (Nat.le_of_ble_eq_true rfl), ?_⟩
      refine mj_T.pl rfl rfl rfl rfl ?_
      exact mj_T.ret rfl rfl rfl ⟨2, rfl, ⟨n + 1, by omega, by omega, w.thr o1⟩, jLf.of o1⟩
-- PolyRegistersLaw.substitute(LPolyRegisters;III[J)I
theorem jw_315 {D n p0 q : Nat} {tm : Int} {h : mj_H} {K L : Nat → Nat} {R : Nat → Nat → Nat} {p1 : Int} {p2 : Int} {p3 : Int} (ty : jTY K L R) (w : jLw K L R q n tm h) (kp0 : K p0 = 19) (rp1 : -2147483648 ≤ p1 ∧ p1 ≤ 2147483647) (rp2 : -2147483648 ≤ p2 ∧ p2 ≤ 2147483647) (rp3 : -2147483648 ≤ p3 ∧ p3 ≤ 2147483647) : mj_Ok (D + 6) 315 [.ref p0, .int (jn p1), .int (jn p2), .int (jn p3), .ref q] h (jWr K L R q n tm h) := by
  have hg : h.length ≤ n := Nat.le_of_eq w.1.1
  refine mj_Ok.of (M := mj_m315) (loc := [some (.ref p0), some (.int (jn p1)), some (.int (jn p2)), some (.int (jn p3)), some (.ref q), none]) rfl rfl rfl ?_
  iterate 6 refine mj_T.pl rfl rfl rfl rfl ?_
  refine mj_T.call rfl rfl (Nat.le_of_ble_eq_true rfl) (Nat.le_of_ble_eq_true rfl) (jrv_of w.1 kp0 (by decide) rfl (by decide) rfl _) rfl (jc_107 (D := D) ty hg w.1 kp0 rp1 rp2 rp3) (fun v h1 hq => ?_) (fun i h1 hq => ?_)
  · obtain ⟨hv, o1⟩ := hq
    obtain ⟨z, _, _, rfl⟩ := hv
    refine mj_T.step rfl rfl rfl ?_
    refine jW.last w o1 rfl (fun h2 w2 f2 _ => ?_)
    iterate 2 refine mj_T.pl rfl rfl rfl rfl ?_
    exact mj_T.ret rfl rfl rfl ⟨0, rfl, ⟨n, by omega, by omega, w2⟩, f2⟩
  · obtain ⟨hi, o1⟩ := hq
    simp only [List.mem_cons, List.not_mem_nil, or_false] at hi
    rcases hi with hi | hi
    · subst hi
      refine Or.inr ⟨5, 17, rfl, (Nat.le_of_ble_eq_true rfl), ?_⟩
      refine mj_T.pl rfl rfl rfl rfl ?_
      exact mj_T.ret rfl rfl rfl ⟨1, rfl, ⟨n + 1, by omega, by omega, w.thr o1⟩, jLf.of o1⟩
    · subst hi
      refine Or.inr ⟨5, 21, rfl, (Nat.le_of_ble_eq_true rfl), ?_⟩
      refine mj_T.pl rfl rfl rfl rfl ?_
      exact mj_T.ret rfl rfl rfl ⟨2, rfl, ⟨n + 1, by omega, by omega, w.thr o1⟩, jLf.of o1⟩
-- PolyRegistersLaw.divide(LPolyRegisters;IIII[J)I
theorem jw_316 {D n p0 q : Nat} {tm : Int} {h : mj_H} {K L : Nat → Nat} {R : Nat → Nat → Nat} {p1 : Int} {p2 : Int} {p3 : Int} {p4 : Int} (ty : jTY K L R) (w : jLw K L R q n tm h) (kp0 : K p0 = 19) (rp1 : -2147483648 ≤ p1 ∧ p1 ≤ 2147483647) (rp2 : -2147483648 ≤ p2 ∧ p2 ≤ 2147483647) (rp3 : -2147483648 ≤ p3 ∧ p3 ≤ 2147483647) (rp4 : -2147483648 ≤ p4 ∧ p4 ≤ 2147483647) : mj_Ok (D + 6) 316 [.ref p0, .int (jn p1), .int (jn p2), .int (jn p3), .int (jn p4), .ref q] h (jWr K L R q n tm h) := by
  have hg : h.length ≤ n := Nat.le_of_eq w.1.1
  refine mj_Ok.of (M := mj_m316) (loc := [some (.ref p0), some (.int (jn p1)), some (.int (jn p2)), some (.int (jn p3)), some (.int (jn p4)), some (.ref q), none]) rfl rfl rfl ?_
  iterate 7 refine mj_T.pl rfl rfl rfl rfl ?_
  refine mj_T.call rfl rfl (Nat.le_of_ble_eq_true rfl) (Nat.le_of_ble_eq_true rfl) (jrv_of w.1 kp0 (by decide) rfl (by decide) rfl _) rfl (jc_108 (D := D) ty hg w.1 kp0 rp1 rp2 rp3 rp4) (fun v h1 hq => ?_) (fun i h1 hq => ?_)
  · obtain ⟨hv, o1⟩ := hq
    obtain ⟨z, _, _, rfl⟩ := hv
    refine mj_T.step rfl rfl rfl ?_
    refine jW.last w o1 rfl (fun h2 w2 f2 _ => ?_)
    iterate 2 refine mj_T.pl rfl rfl rfl rfl ?_
    exact mj_T.ret rfl rfl rfl ⟨0, rfl, ⟨n, by omega, by omega, w2⟩, f2⟩
  · obtain ⟨hi, o1⟩ := hq
    simp only [List.mem_cons, List.not_mem_nil, or_false] at hi
    rcases hi with hi | hi | hi | hi
    · subst hi
      refine Or.inr ⟨6, 19, rfl, (Nat.le_of_ble_eq_true rfl), ?_⟩
      refine mj_T.pl rfl rfl rfl rfl ?_
      exact mj_T.ret rfl rfl rfl ⟨1, rfl, ⟨n + 1, by omega, by omega, w.thr o1⟩, jLf.of o1⟩
    · subst hi
      refine Or.inr ⟨6, 23, rfl, (Nat.le_of_ble_eq_true rfl), ?_⟩
      refine mj_T.pl rfl rfl rfl rfl ?_
      exact mj_T.ret rfl rfl rfl ⟨2, rfl, ⟨n + 1, by omega, by omega, w.thr o1⟩, jLf.of o1⟩
    · subst hi
      refine Or.inr ⟨6, 27, rfl, (Nat.le_of_ble_eq_true rfl), ?_⟩
      refine mj_T.pl rfl rfl rfl rfl ?_
      exact mj_T.ret rfl rfl rfl ⟨3, rfl, ⟨n + 1, by omega, by omega, w.thr o1⟩, jLf.of o1⟩
    · subst hi
      refine Or.inr ⟨6, 31, rfl, (Nat.le_of_ble_eq_true rfl), ?_⟩
      refine mj_T.pl rfl rfl rfl rfl ?_
      exact mj_T.ret rfl rfl rfl ⟨4, rfl, ⟨n + 1, by omega, by omega, w.thr o1⟩, jLf.of o1⟩
-- PolyRegistersLaw.gcd(LPolyRegisters;III[J)I
theorem jw_317 {D n p0 q : Nat} {tm : Int} {h : mj_H} {K L : Nat → Nat} {R : Nat → Nat → Nat} {p1 : Int} {p2 : Int} {p3 : Int} (ty : jTY K L R) (w : jLw K L R q n tm h) (kp0 : K p0 = 19) (rp1 : -2147483648 ≤ p1 ∧ p1 ≤ 2147483647) (rp2 : -2147483648 ≤ p2 ∧ p2 ≤ 2147483647) (rp3 : -2147483648 ≤ p3 ∧ p3 ≤ 2147483647) : mj_Ok (D + 8) 317 [.ref p0, .int (jn p1), .int (jn p2), .int (jn p3), .ref q] h (jWr K L R q n tm h) := by
  have hg : h.length ≤ n := Nat.le_of_eq w.1.1
  refine mj_Ok.of (M := mj_m317) (loc := [some (.ref p0), some (.int (jn p1)), some (.int (jn p2)), some (.int (jn p3)), some (.ref q), none]) rfl rfl rfl ?_
  iterate 6 refine mj_T.pl rfl rfl rfl rfl ?_
  refine mj_T.call rfl rfl (Nat.le_of_ble_eq_true rfl) (Nat.le_of_ble_eq_true rfl) (jrv_of w.1 kp0 (by decide) rfl (by decide) rfl _) rfl (jc_109 (D := D) ty hg w.1 kp0 rp1 rp2 rp3) (fun v h1 hq => ?_) (fun i h1 hq => ?_)
  · obtain ⟨hv, o1⟩ := hq
    obtain ⟨z, _, _, rfl⟩ := hv
    refine mj_T.step rfl rfl rfl ?_
    refine jW.last w o1 rfl (fun h2 w2 f2 _ => ?_)
    iterate 2 refine mj_T.pl rfl rfl rfl rfl ?_
    exact mj_T.ret rfl rfl rfl ⟨0, rfl, ⟨n, by omega, by omega, w2⟩, f2⟩
  · obtain ⟨hi, o1⟩ := hq
    simp only [List.mem_cons, List.not_mem_nil, or_false] at hi
    rcases hi with hi | hi
    · subst hi
      refine Or.inr ⟨5, 17, rfl, (Nat.le_of_ble_eq_true rfl), ?_⟩
      refine mj_T.pl rfl rfl rfl rfl ?_
      exact mj_T.ret rfl rfl rfl ⟨1, rfl, ⟨n + 1, by omega, by omega, w.thr o1⟩, jLf.of o1⟩
    · subst hi
      refine Or.inr ⟨5, 21, rfl, (Nat.le_of_ble_eq_true rfl), ?_⟩
      refine mj_T.pl rfl rfl rfl rfl ?_
      exact mj_T.ret rfl rfl rfl ⟨2, rfl, ⟨n + 1, by omega, by omega, w.thr o1⟩, jLf.of o1⟩
-- PolyRegistersLaw.primitive(LPolyRegisters;II[J)I
theorem jw_318 {D n p0 q : Nat} {tm : Int} {h : mj_H} {K L : Nat → Nat} {R : Nat → Nat → Nat} {p1 : Int} {p2 : Int} (ty : jTY K L R) (w : jLw K L R q n tm h) (kp0 : K p0 = 19) (rp1 : -2147483648 ≤ p1 ∧ p1 ≤ 2147483647) (rp2 : -2147483648 ≤ p2 ∧ p2 ≤ 2147483647) : mj_Ok (D + 6) 318 [.ref p0, .int (jn p1), .int (jn p2), .ref q] h (jWr K L R q n tm h) := by
  have hg : h.length ≤ n := Nat.le_of_eq w.1.1
  refine mj_Ok.of (M := mj_m318) (loc := [some (.ref p0), some (.int (jn p1)), some (.int (jn p2)), some (.ref q), none]) rfl rfl rfl ?_
  iterate 5 refine mj_T.pl rfl rfl rfl rfl ?_
  refine mj_T.call rfl rfl (Nat.le_of_ble_eq_true rfl) (Nat.le_of_ble_eq_true rfl) (jrv_of w.1 kp0 (by decide) rfl (by decide) rfl _) rfl (jc_110 (D := D) ty hg w.1 kp0 rp1 rp2) (fun v h1 hq => ?_) (fun i h1 hq => ?_)
  · obtain ⟨hv, o1⟩ := hq
    obtain ⟨z, _, _, rfl⟩ := hv
    refine mj_T.step rfl rfl rfl ?_
    refine jW.last w o1 rfl (fun h2 w2 f2 _ => ?_)
    iterate 2 refine mj_T.pl rfl rfl rfl rfl ?_
    exact mj_T.ret rfl rfl rfl ⟨0, rfl, ⟨n, by omega, by omega, w2⟩, f2⟩
  · obtain ⟨hi, o1⟩ := hq
    simp only [List.mem_cons, List.not_mem_nil, or_false] at hi
    · subst hi
      refine Or.inr ⟨4, 15, rfl, (Nat.le_of_ble_eq_true rfl), ?_⟩
      refine mj_T.pl rfl rfl rfl rfl ?_
      exact mj_T.ret rfl rfl rfl ⟨1, rfl, ⟨n + 1, by omega, by omega, w.thr o1⟩, jLf.of o1⟩
-- PolyRegistersLaw.simple(LPolyRegisters;II[J)I
theorem jw_319 {D n p0 q : Nat} {tm : Int} {h : mj_H} {K L : Nat → Nat} {R : Nat → Nat → Nat} {p1 : Int} {p2 : Int} (ty : jTY K L R) (w : jLw K L R q n tm h) (kp0 : K p0 = 19) (rp1 : -2147483648 ≤ p1 ∧ p1 ≤ 2147483647) (rp2 : -2147483648 ≤ p2 ∧ p2 ≤ 2147483647) : mj_Ok (D + 8) 319 [.ref p0, .int (jn p1), .int (jn p2), .ref q] h (jWr K L R q n tm h) := by
  have hg : h.length ≤ n := Nat.le_of_eq w.1.1
  refine mj_Ok.of (M := mj_m319) (loc := [some (.ref p0), some (.int (jn p1)), some (.int (jn p2)), some (.ref q), none]) rfl rfl rfl ?_
  iterate 5 refine mj_T.pl rfl rfl rfl rfl ?_
  refine mj_T.call rfl rfl (Nat.le_of_ble_eq_true rfl) (Nat.le_of_ble_eq_true rfl) (jrv_of w.1 kp0 (by decide) rfl (by decide) rfl _) rfl (jc_111 (D := D) ty hg w.1 kp0 rp1 rp2) (fun v h1 hq => ?_) (fun i h1 hq => ?_)
  · obtain ⟨hv, o1⟩ := hq
    obtain ⟨z, _, _, rfl⟩ := hv
    refine mj_T.step rfl rfl rfl ?_
    refine jW.last w o1 rfl (fun h2 w2 f2 _ => ?_)
    iterate 2 refine mj_T.pl rfl rfl rfl rfl ?_
    exact mj_T.ret rfl rfl rfl ⟨0, rfl, ⟨n, by omega, by omega, w2⟩, f2⟩
  · obtain ⟨hi, o1⟩ := hq
    simp only [List.mem_cons, List.not_mem_nil, or_false] at hi
    rcases hi with hi | hi | hi
    · subst hi
      refine Or.inr ⟨4, 15, rfl, (Nat.le_of_ble_eq_true rfl), ?_⟩
      refine mj_T.pl rfl rfl rfl rfl ?_
      exact mj_T.ret rfl rfl rfl ⟨1, rfl, ⟨n + 1, by omega, by omega, w.thr o1⟩, jLf.of o1⟩
    · subst hi
      refine Or.inr ⟨4, 19, rfl, (Nat.le_of_ble_eq_true rfl), ?_⟩
      refine mj_T.pl rfl rfl rfl rfl ?_
      exact mj_T.ret rfl rfl rfl ⟨2, rfl, ⟨n + 1, by omega, by omega, w.thr o1⟩, jLf.of o1⟩
    · subst hi
      refine Or.inr ⟨4, 23, rfl, (Nat.le_of_ble_eq_true rfl), ?_⟩
      refine mj_T.pl rfl rfl rfl rfl ?_
      exact mj_T.ret rfl rfl rfl ⟨3, rfl, ⟨n + 1, by omega, by omega, w.thr o1⟩, jLf.of o1⟩
-- PolyRegistersLaw.residue(LPolyRegisters;III[J)I
theorem jw_320 {D n p0 q : Nat} {tm : Int} {h : mj_H} {K L : Nat → Nat} {R : Nat → Nat → Nat} {p1 : Int} {p2 : Int} {p3 : Int} (ty : jTY K L R) (w : jLw K L R q n tm h) (kp0 : K p0 = 19) (rp1 : -2147483648 ≤ p1 ∧ p1 ≤ 2147483647) (rp2 : -2147483648 ≤ p2 ∧ p2 ≤ 2147483647) (rp3 : -2147483648 ≤ p3 ∧ p3 ≤ 2147483647) : mj_Ok (D + 6) 320 [.ref p0, .int (jn p1), .int (jn p2), .int (jn p3), .ref q] h (jWr K L R q n tm h) := by
  have hg : h.length ≤ n := Nat.le_of_eq w.1.1
  refine mj_Ok.of (M := mj_m320) (loc := [some (.ref p0), some (.int (jn p1)), some (.int (jn p2)), some (.int (jn p3)), some (.ref q), none]) rfl rfl rfl ?_
  iterate 6 refine mj_T.pl rfl rfl rfl rfl ?_
  refine mj_T.call rfl rfl (Nat.le_of_ble_eq_true rfl) (Nat.le_of_ble_eq_true rfl) (jrv_of w.1 kp0 (by decide) rfl (by decide) rfl _) rfl (jc_112 (D := D) ty hg w.1 kp0 rp1 rp2 rp3) (fun v h1 hq => ?_) (fun i h1 hq => ?_)
  · obtain ⟨hv, o1⟩ := hq
    obtain ⟨z, _, _, rfl⟩ := hv
    refine mj_T.step rfl rfl rfl ?_
    refine jW.last w o1 rfl (fun h2 w2 f2 _ => ?_)
    iterate 2 refine mj_T.pl rfl rfl rfl rfl ?_
    exact mj_T.ret rfl rfl rfl ⟨0, rfl, ⟨n, by omega, by omega, w2⟩, f2⟩
  · obtain ⟨hi, o1⟩ := hq
    simp only [List.mem_cons, List.not_mem_nil, or_false] at hi
    rcases hi with hi | hi
    · subst hi
      refine Or.inr ⟨5, 17, rfl, (Nat.le_of_ble_eq_true rfl), ?_⟩
      refine mj_T.pl rfl rfl rfl rfl ?_
      exact mj_T.ret rfl rfl rfl ⟨1, rfl, ⟨n + 1, by omega, by omega, w.thr o1⟩, jLf.of o1⟩
    · subst hi
      refine Or.inr ⟨5, 21, rfl, (Nat.le_of_ble_eq_true rfl), ?_⟩
      refine mj_T.pl rfl rfl rfl rfl ?_
      exact mj_T.ret rfl rfl rfl ⟨2, rfl, ⟨n + 1, by omega, by omega, w.thr o1⟩, jLf.of o1⟩
-- PolyRegistersLaw.setTerm(LPolyRegisters;IIJ[J)I
theorem jw_321 {D n p0 q : Nat} {tm : Int} {h : mj_H} {K L : Nat → Nat} {R : Nat → Nat → Nat} {p1 : Int} {p2 : Int} {p3 : Int} (ty : jTY K L R) (w : jLw K L R q n tm h) (kp0 : K p0 = 19) (rp1 : -2147483648 ≤ p1 ∧ p1 ≤ 2147483647) (rp2 : -2147483648 ≤ p2 ∧ p2 ≤ 2147483647) (jp3 : jR p3) : mj_Ok (D + 6) 321 [.ref p0, .int (jn p1), .int (jn p2), .long (jl p3), .ref q] h (jWr K L R q n tm h) := by
  have hg : h.length ≤ n := Nat.le_of_eq w.1.1
  refine mj_Ok.of (M := mj_m321) (loc := [some (.ref p0), some (.int (jn p1)), some (.int (jn p2)), some (.long (jl p3)), none, some (.ref q), none]) rfl rfl rfl ?_
  iterate 6 refine mj_T.pl rfl rfl rfl rfl ?_
  refine mj_T.call rfl rfl (Nat.le_of_ble_eq_true rfl) (Nat.le_of_ble_eq_true rfl) (jrv_of w.1 kp0 (by decide) rfl (by decide) rfl _) rfl (jc_113 (D := D) ty hg w.1 kp0 rp1 rp2 jp3) (fun v h1 hq => ?_) (fun i h1 hq => ?_)
  · obtain ⟨hv, o1⟩ := hq
    obtain ⟨z, _, _, rfl⟩ := hv
    refine mj_T.step rfl rfl rfl ?_
    refine jW.last w o1 rfl (fun h2 w2 f2 _ => ?_)
    iterate 2 refine mj_T.pl rfl rfl rfl rfl ?_
    exact mj_T.ret rfl rfl rfl ⟨0, rfl, ⟨n, by omega, by omega, w2⟩, f2⟩
  · obtain ⟨hi, o1⟩ := hq
    simp only [List.mem_cons, List.not_mem_nil, or_false] at hi
    rcases hi with hi | hi | hi
    · subst hi
      refine Or.inr ⟨6, 17, rfl, (Nat.le_of_ble_eq_true rfl), ?_⟩
      refine mj_T.pl rfl rfl rfl rfl ?_
      exact mj_T.ret rfl rfl rfl ⟨1, rfl, ⟨n + 1, by omega, by omega, w.thr o1⟩, jLf.of o1⟩
    · subst hi
      refine Or.inr ⟨6, 21, rfl, (Nat.le_of_ble_eq_true rfl), ?_⟩
      refine mj_T.pl rfl rfl rfl rfl ?_
      exact mj_T.ret rfl rfl rfl ⟨2, rfl, ⟨n + 1, by omega, by omega, w.thr o1⟩, jLf.of o1⟩
    · subst hi
      refine Or.inr ⟨6, 25, rfl, (Nat.le_of_ble_eq_true rfl), ?_⟩
      refine mj_T.pl rfl rfl rfl rfl ?_
      exact mj_T.ret rfl rfl rfl ⟨3, rfl, ⟨n + 1, by omega, by omega, w.thr o1⟩, jLf.of o1⟩
-- PolyRegistersLaw.addPoint(LPolyRegisters;II[J)I
theorem jw_323 {D n p0 q : Nat} {tm : Int} {h : mj_H} {K L : Nat → Nat} {R : Nat → Nat → Nat} {p1 : Int} {p2 : Int} (ty : jTY K L R) (w : jLw K L R q n tm h) (kp0 : K p0 = 19) (rp1 : -2147483648 ≤ p1 ∧ p1 ≤ 2147483647) (rp2 : -2147483648 ≤ p2 ∧ p2 ≤ 2147483647) : mj_Ok (D + 5) 323 [.ref p0, .int (jn p1), .int (jn p2), .ref q] h (jWr K L R q n tm h) := by
  have hg : h.length ≤ n := Nat.le_of_eq w.1.1
  refine mj_Ok.of (M := mj_m323) (loc := [some (.ref p0), some (.int (jn p1)), some (.int (jn p2)), some (.ref q), none]) rfl rfl rfl ?_
  iterate 5 refine mj_T.pl rfl rfl rfl rfl ?_
  refine mj_T.call rfl rfl (Nat.le_of_ble_eq_true rfl) (Nat.le_of_ble_eq_true rfl) (jrv_of w.1 kp0 (by decide) rfl (by decide) rfl _) rfl (jc_115 (D := D) ty hg w.1 kp0 rp1 rp2) (fun v h1 hq => ?_) (fun i h1 hq => ?_)
  · obtain ⟨hv, o1⟩ := hq
    obtain ⟨z, _, _, rfl⟩ := hv
    refine mj_T.step rfl rfl rfl ?_
    refine jW.last w o1 rfl (fun h2 w2 f2 _ => ?_)
    iterate 2 refine mj_T.pl rfl rfl rfl rfl ?_
    exact mj_T.ret rfl rfl rfl ⟨0, rfl, ⟨n, by omega, by omega, w2⟩, f2⟩
  · obtain ⟨hi, o1⟩ := hq
    simp only [List.mem_cons, List.not_mem_nil, or_false] at hi
    rcases hi with hi | hi
    · subst hi
      refine Or.inr ⟨4, 15, rfl, (Nat.le_of_ble_eq_true rfl), ?_⟩
      refine mj_T.pl rfl rfl rfl rfl ?_
      exact mj_T.ret rfl rfl rfl ⟨1, rfl, ⟨n + 1, by omega, by omega, w.thr o1⟩, jLf.of o1⟩
    · subst hi
      refine Or.inr ⟨4, 19, rfl, (Nat.le_of_ble_eq_true rfl), ?_⟩
      refine mj_T.pl rfl rfl rfl rfl ?_
      exact mj_T.ret rfl rfl rfl ⟨2, rfl, ⟨n + 1, by omega, by omega, w.thr o1⟩, jLf.of o1⟩
-- PolyRegistersLaw.interpolate(LPolyRegisters;I[J)I
theorem jw_324 {D n p0 q : Nat} {tm : Int} {h : mj_H} {K L : Nat → Nat} {R : Nat → Nat → Nat} {p1 : Int} (ty : jTY K L R) (w : jLw K L R q n tm h) (kp0 : K p0 = 19) (rp1 : -2147483648 ≤ p1 ∧ p1 ≤ 2147483647) : mj_Ok (D + 6) 324 [.ref p0, .int (jn p1), .ref q] h (jWr K L R q n tm h) := by
  have hg : h.length ≤ n := Nat.le_of_eq w.1.1
  refine mj_Ok.of (M := mj_m324) (loc := [some (.ref p0), some (.int (jn p1)), some (.ref q), none]) rfl rfl rfl ?_
  iterate 4 refine mj_T.pl rfl rfl rfl rfl ?_
  refine mj_T.call rfl rfl (Nat.le_of_ble_eq_true rfl) (Nat.le_of_ble_eq_true rfl) (jrv_of w.1 kp0 (by decide) rfl (by decide) rfl _) rfl (jc_117 (D := D) ty hg w.1 kp0 rp1) (fun v h1 hq => ?_) (fun i h1 hq => ?_)
  · obtain ⟨hv, o1⟩ := hq
    obtain ⟨z, _, rfl⟩ := hv
    refine jW.last w o1 rfl (fun h2 w2 f2 _ => ?_)
    iterate 2 refine mj_T.pl rfl rfl rfl rfl ?_
    exact mj_T.ret rfl rfl rfl ⟨0, rfl, ⟨n, by omega, by omega, w2⟩, f2⟩
  · obtain ⟨hi, o1⟩ := hq
    simp only [List.mem_cons, List.not_mem_nil, or_false] at hi
    rcases hi with hi | hi
    · subst hi
      refine Or.inr ⟨3, 12, rfl, (Nat.le_of_ble_eq_true rfl), ?_⟩
      refine mj_T.pl rfl rfl rfl rfl ?_
      exact mj_T.ret rfl rfl rfl ⟨1, rfl, ⟨n + 1, by omega, by omega, w.thr o1⟩, jLf.of o1⟩
    · subst hi
      refine Or.inr ⟨3, 15, rfl, (Nat.le_of_ble_eq_true rfl), ?_⟩
      refine mj_T.pl rfl rfl rfl rfl ?_
      exact mj_T.ret rfl rfl rfl ⟨2, rfl, ⟨n + 1, by omega, by omega, w.thr o1⟩, jLf.of o1⟩
-- PolyRegistersLaw.degree(LPolyRegisters;I[J)I
theorem jw_325 {D n p0 q : Nat} {tm : Int} {h : mj_H} {K L : Nat → Nat} {R : Nat → Nat → Nat} {p1 : Int} (ty : jTY K L R) (w : jLw K L R q n tm h) (kp0 : K p0 = 19) (rp1 : -2147483648 ≤ p1 ∧ p1 ≤ 2147483647) : mj_Ok (D + 3) 325 [.ref p0, .int (jn p1), .ref q] h (jWr K L R q n tm h) := by
  have hg : h.length ≤ n := Nat.le_of_eq w.1.1
  refine mj_Ok.of (M := mj_m325) (loc := [some (.ref p0), some (.int (jn p1)), some (.ref q), none]) rfl rfl rfl ?_
  iterate 4 refine mj_T.pl rfl rfl rfl rfl ?_
  refine mj_T.call rfl rfl (Nat.le_of_ble_eq_true rfl) (Nat.le_of_ble_eq_true rfl) (jrv_of w.1 kp0 (by decide) rfl (by decide) rfl _) rfl (mj_Ok.to (jc_119 (D := D) ty hg w.1 kp0 rp1) (fun _ k => jQp.toQ w.1 k)) (fun v h1 hq => ?_) (fun i h1 hq => ?_)
  · obtain ⟨hv, o1⟩ := hq
    obtain ⟨z, _, _, rfl⟩ := hv
    refine mj_T.step rfl rfl rfl ?_
    refine jW.last w o1 rfl (fun h2 w2 f2 _ => ?_)
    iterate 2 refine mj_T.pl rfl rfl rfl rfl ?_
    exact mj_T.ret rfl rfl rfl ⟨0, rfl, ⟨n, by omega, by omega, w2⟩, f2⟩
  · obtain ⟨hi, o1⟩ := hq
    simp only [List.mem_cons, List.not_mem_nil, or_false] at hi
    · subst hi
      refine Or.inr ⟨3, 13, rfl, (Nat.le_of_ble_eq_true rfl), ?_⟩
      refine mj_T.pl rfl rfl rfl rfl ?_
      exact mj_T.ret rfl rfl rfl ⟨1, rfl, ⟨n + 1, by omega, by omega, w.thr o1⟩, jLf.of o1⟩
-- PolyRegistersLaw.terms(LPolyRegisters;I[J)I
theorem jw_326 {D n p0 q : Nat} {tm : Int} {h : mj_H} {K L : Nat → Nat} {R : Nat → Nat → Nat} {p1 : Int} (ty : jTY K L R) (w : jLw K L R q n tm h) (kp0 : K p0 = 19) (rp1 : -2147483648 ≤ p1 ∧ p1 ≤ 2147483647) : mj_Ok (D + 3) 326 [.ref p0, .int (jn p1), .ref q] h (jWr K L R q n tm h) := by
  have hg : h.length ≤ n := Nat.le_of_eq w.1.1
  refine mj_Ok.of (M := mj_m326) (loc := [some (.ref p0), some (.int (jn p1)), some (.ref q), none]) rfl rfl rfl ?_
  iterate 4 refine mj_T.pl rfl rfl rfl rfl ?_
  refine mj_T.call rfl rfl (Nat.le_of_ble_eq_true rfl) (Nat.le_of_ble_eq_true rfl) (jrv_of w.1 kp0 (by decide) rfl (by decide) rfl _) rfl (mj_Ok.to (jc_120 (D := D) ty hg w.1 kp0 rp1) (fun _ k => jQp.toQ w.1 k)) (fun v h1 hq => ?_) (fun i h1 hq => ?_)
  · obtain ⟨hv, o1⟩ := hq
    obtain ⟨z, _, _, rfl⟩ := hv
    refine mj_T.step rfl rfl rfl ?_
    refine jW.last w o1 rfl (fun h2 w2 f2 _ => ?_)
    iterate 2 refine mj_T.pl rfl rfl rfl rfl ?_
    exact mj_T.ret rfl rfl rfl ⟨0, rfl, ⟨n, by omega, by omega, w2⟩, f2⟩
  · obtain ⟨hi, o1⟩ := hq
    simp only [List.mem_cons, List.not_mem_nil, or_false] at hi
    · subst hi
      refine Or.inr ⟨3, 13, rfl, (Nat.le_of_ble_eq_true rfl), ?_⟩
      refine mj_T.pl rfl rfl rfl rfl ?_
      exact mj_T.ret rfl rfl rfl ⟨1, rfl, ⟨n + 1, by omega, by omega, w.thr o1⟩, jLf.of o1⟩
-- PolyRegistersLaw.exponent(LPolyRegisters;II[J)I
theorem jw_327 {D n p0 q : Nat} {tm : Int} {h : mj_H} {K L : Nat → Nat} {R : Nat → Nat → Nat} {p1 : Int} {p2 : Int} (ty : jTY K L R) (w : jLw K L R q n tm h) (kp0 : K p0 = 19) (rp1 : -2147483648 ≤ p1 ∧ p1 ≤ 2147483647) (rp2 : -2147483648 ≤ p2 ∧ p2 ≤ 2147483647) : mj_Ok (D + 3) 327 [.ref p0, .int (jn p1), .int (jn p2), .ref q] h (jWr K L R q n tm h) := by
  have hg : h.length ≤ n := Nat.le_of_eq w.1.1
  refine mj_Ok.of (M := mj_m327) (loc := [some (.ref p0), some (.int (jn p1)), some (.int (jn p2)), some (.ref q), none]) rfl rfl rfl ?_
  iterate 5 refine mj_T.pl rfl rfl rfl rfl ?_
  refine mj_T.call rfl rfl (Nat.le_of_ble_eq_true rfl) (Nat.le_of_ble_eq_true rfl) (jrv_of w.1 kp0 (by decide) rfl (by decide) rfl _) rfl (mj_Ok.to (jc_121 (D := D) ty hg w.1 kp0 rp1 rp2) (fun _ k => jQp.toQ w.1 k)) (fun v h1 hq => ?_) (fun i h1 hq => ?_)
  · obtain ⟨hv, o1⟩ := hq
    obtain ⟨z, _, _, rfl⟩ := hv
    refine mj_T.step rfl rfl rfl ?_
    refine jW.last w o1 rfl (fun h2 w2 f2 _ => ?_)
    iterate 2 refine mj_T.pl rfl rfl rfl rfl ?_
    exact mj_T.ret rfl rfl rfl ⟨0, rfl, ⟨n, by omega, by omega, w2⟩, f2⟩
  · obtain ⟨hi, o1⟩ := hq
    simp only [List.mem_cons, List.not_mem_nil, or_false] at hi
    · subst hi
      refine Or.inr ⟨4, 15, rfl, (Nat.le_of_ble_eq_true rfl), ?_⟩
      refine mj_T.pl rfl rfl rfl rfl ?_
      exact mj_T.ret rfl rfl rfl ⟨1, rfl, ⟨n + 1, by omega, by omega, w.thr o1⟩, jLf.of o1⟩
-- PolyRegistersLaw.coefficient(LPolyRegisters;II[J)I
theorem jw_328 {D n p0 q : Nat} {tm : Int} {h : mj_H} {K L : Nat → Nat} {R : Nat → Nat → Nat} {p1 : Int} {p2 : Int} (ty : jTY K L R) (w : jLw K L R q n tm h) (kp0 : K p0 = 19) (rp1 : -2147483648 ≤ p1 ∧ p1 ≤ 2147483647) (rp2 : -2147483648 ≤ p2 ∧ p2 ≤ 2147483647) : mj_Ok (D + 4) 328 [.ref p0, .int (jn p1), .int (jn p2), .ref q] h (jWr K L R q n tm h) := by
  have hg : h.length ≤ n := Nat.le_of_eq w.1.1
  refine mj_Ok.of (M := mj_m328) (loc := [some (.ref p0), some (.int (jn p1)), some (.int (jn p2)), some (.ref q), none]) rfl rfl rfl ?_
  iterate 5 refine mj_T.pl rfl rfl rfl rfl ?_
  refine mj_T.call rfl rfl (Nat.le_of_ble_eq_true rfl) (Nat.le_of_ble_eq_true rfl) (jrv_of w.1 kp0 (by decide) rfl (by decide) rfl _) rfl (jc_122 (D := D) ty hg w.1 kp0 rp1 rp2) (fun v h1 hq => ?_) (fun i h1 hq => ?_)
  · obtain ⟨hv, o1⟩ := hq
    obtain ⟨z, _, _, rfl⟩ := hv
    refine mj_T.step rfl rfl rfl ?_
    refine jW.last w o1 rfl (fun h2 w2 f2 _ => ?_)
    iterate 2 refine mj_T.pl rfl rfl rfl rfl ?_
    exact mj_T.ret rfl rfl rfl ⟨0, rfl, ⟨n, by omega, by omega, w2⟩, f2⟩
  · obtain ⟨hi, o1⟩ := hq
    simp only [List.mem_cons, List.not_mem_nil, or_false] at hi
    rcases hi with hi | hi
    · subst hi
      refine Or.inr ⟨4, 15, rfl, (Nat.le_of_ble_eq_true rfl), ?_⟩
      refine mj_T.pl rfl rfl rfl rfl ?_
      exact mj_T.ret rfl rfl rfl ⟨1, rfl, ⟨n + 1, by omega, by omega, w.thr o1⟩, jLf.of o1⟩
    · subst hi
      refine Or.inr ⟨4, 19, rfl, (Nat.le_of_ble_eq_true rfl), ?_⟩
      refine mj_T.pl rfl rfl rfl rfl ?_
      exact mj_T.ret rfl rfl rfl ⟨2, rfl, ⟨n + 1, by omega, by omega, w.thr o1⟩, jLf.of o1⟩
/-! The law's small methods, each around a call of the class. -/
-- PolyRegistersLaw.content(LPolyRegisters;I[J)I
theorem jw_329 {D n p0 q : Nat} {tm : Int} {h : mj_H} {K L : Nat → Nat} {R : Nat → Nat → Nat} {p1 : Int} (ty : jTY K L R) (w : jLw K L R q n tm h) (kp0 : K p0 = 19) (rp1 : -2147483648 ≤ p1 ∧ p1 ≤ 2147483647) : mj_Ok (D + 4) 329 [.ref p0, .int (jn p1), .ref q] h (jWr K L R q n tm h) := by
  have hg : h.length ≤ n := Nat.le_of_eq w.1.1
  refine mj_Ok.of (M := mj_m329) (loc := [some (.ref p0), some (.int (jn p1)), some (.ref q), none]) rfl rfl rfl ?_
  iterate 4 refine mj_T.pl rfl rfl rfl rfl ?_
  refine mj_T.call rfl rfl (Nat.le_of_ble_eq_true rfl) (Nat.le_of_ble_eq_true rfl) (jrv_of w.1 kp0 (by decide) rfl (by decide) rfl _) rfl (jc_123 (D := D) ty hg w.1 kp0 rp1) (fun v h1 hq => ?_) (fun i h1 hq => ?_)
  · obtain ⟨hv, o1⟩ := hq
    obtain ⟨z, _, _, rfl⟩ := hv
    refine mj_T.step rfl rfl rfl ?_
    refine jW.last w o1 rfl (fun h2 w2 f2 _ => ?_)
    iterate 2 refine mj_T.pl rfl rfl rfl rfl ?_
    exact mj_T.ret rfl rfl rfl ⟨0, rfl, ⟨n, by omega, by omega, w2⟩, f2⟩
  · obtain ⟨hi, o1⟩ := hq
    simp only [List.mem_cons, List.not_mem_nil, or_false] at hi
    · subst hi
      refine Or.inr ⟨3, 13, rfl, (Nat.le_of_ble_eq_true rfl), ?_⟩
      refine mj_T.pl rfl rfl rfl rfl ?_
      exact mj_T.ret rfl rfl rfl ⟨1, rfl, ⟨n + 1, by omega, by omega, w.thr o1⟩, jLf.of o1⟩
-- PolyRegistersLaw.value(LPolyRegisters;III[J)I
theorem jw_330 {D n p0 q : Nat} {tm : Int} {h : mj_H} {K L : Nat → Nat} {R : Nat → Nat → Nat} {p1 : Int} {p2 : Int} {p3 : Int} (ty : jTY K L R) (w : jLw K L R q n tm h) (kp0 : K p0 = 19) (rp1 : -2147483648 ≤ p1 ∧ p1 ≤ 2147483647) (rp2 : -2147483648 ≤ p2 ∧ p2 ≤ 2147483647) (rp3 : -2147483648 ≤ p3 ∧ p3 ≤ 2147483647) : mj_Ok (D + 6) 330 [.ref p0, .int (jn p1), .int (jn p2), .int (jn p3), .ref q] h (jWr K L R q n tm h) := by
  have hg : h.length ≤ n := Nat.le_of_eq w.1.1
  refine mj_Ok.of (M := mj_m330) (loc := [some (.ref p0), some (.int (jn p1)), some (.int (jn p2)), some (.int (jn p3)), some (.ref q), none]) rfl rfl rfl ?_
  iterate 6 refine mj_T.pl rfl rfl rfl rfl ?_
  refine mj_T.call rfl rfl (Nat.le_of_ble_eq_true rfl) (Nat.le_of_ble_eq_true rfl) (jrv_of w.1 kp0 (by decide) rfl (by decide) rfl _) rfl (jc_124 (D := D) ty hg w.1 kp0 rp1 rp2 rp3) (fun v h1 hq => ?_) (fun i h1 hq => ?_)
  · obtain ⟨hv, o1⟩ := hq
    obtain ⟨z, _, _, rfl⟩ := hv
    refine mj_T.step rfl rfl rfl ?_
    refine jW.last w o1 rfl (fun h2 w2 f2 _ => ?_)
    iterate 2 refine mj_T.pl rfl rfl rfl rfl ?_
    exact mj_T.ret rfl rfl rfl ⟨0, rfl, ⟨n, by omega, by omega, w2⟩, f2⟩
  · obtain ⟨hi, o1⟩ := hq
    simp only [List.mem_cons, List.not_mem_nil, or_false] at hi
    rcases hi with hi | hi
    · subst hi
      refine Or.inr ⟨5, 17, rfl, (Nat.le_of_ble_eq_true rfl), ?_⟩
      refine mj_T.pl rfl rfl rfl rfl ?_
      exact mj_T.ret rfl rfl rfl ⟨1, rfl, ⟨n + 1, by omega, by omega, w.thr o1⟩, jLf.of o1⟩
    · subst hi
      refine Or.inr ⟨5, 21, rfl, (Nat.le_of_ble_eq_true rfl), ?_⟩
      refine mj_T.pl rfl rfl rfl rfl ?_
      exact mj_T.ret rfl rfl rfl ⟨2, rfl, ⟨n + 1, by omega, by omega, w.thr o1⟩, jLf.of o1⟩
-- PolyRegistersLaw.divides(LPolyRegisters;II[J)I
theorem jw_331 {D n p0 q : Nat} {tm : Int} {h : mj_H} {K L : Nat → Nat} {R : Nat → Nat → Nat} {p1 : Int} {p2 : Int} (ty : jTY K L R) (w : jLw K L R q n tm h) (kp0 : K p0 = 19) (rp1 : -2147483648 ≤ p1 ∧ p1 ≤ 2147483647) (rp2 : -2147483648 ≤ p2 ∧ p2 ≤ 2147483647) : mj_Ok (D + 6) 331 [.ref p0, .int (jn p1), .int (jn p2), .ref q] h (jWr K L R q n tm h) := by
  have hg : h.length ≤ n := Nat.le_of_eq w.1.1
  refine mj_Ok.of (M := mj_m331) (loc := [some (.ref p0), some (.int (jn p1)), some (.int (jn p2)), some (.ref q), none]) rfl rfl rfl ?_
  iterate 5 refine mj_T.pl rfl rfl rfl rfl ?_
  refine mj_T.call rfl rfl (Nat.le_of_ble_eq_true rfl) (Nat.le_of_ble_eq_true rfl) (jrv_of w.1 kp0 (by decide) rfl (by decide) rfl _) rfl (jc_125 (D := D) ty hg w.1 kp0 rp1 rp2) (fun v h1 hq => ?_) (fun i h1 hq => ?_)
  · obtain ⟨hv, o1⟩ := hq
    obtain ⟨z, _, _, rfl⟩ := hv
    refine mj_T.eq (pc2 := 8) (st2 := [.int (jn z), .int (jn 0), .ref q]) ?_ rfl rfl rfl rfl
    refine jT.if0 rfl ⟨by omega, by omega⟩ (fun _ => ?_) (fun _ => ?_)
    · refine mj_T.pl rfl rfl rfl rfl ?_
      refine jW.last w o1 rfl (fun h2 w2 f2 _ => ?_)
      iterate 2 refine mj_T.pl rfl rfl rfl rfl ?_
      exact mj_T.ret rfl rfl rfl ⟨0, rfl, ⟨n, by omega, by omega, w2⟩, f2⟩
    · iterate 2 refine mj_T.pl rfl rfl rfl rfl ?_
      refine jW.last w o1 rfl (fun h2 w2 f2 _ => ?_)
      iterate 2 refine mj_T.pl rfl rfl rfl rfl ?_
      exact mj_T.ret rfl rfl rfl ⟨0, rfl, ⟨n, by omega, by omega, w2⟩, f2⟩
  · obtain ⟨hi, o1⟩ := hq
    simp only [List.mem_cons, List.not_mem_nil, or_false] at hi
    · subst hi
      refine Or.inr ⟨4, 22, rfl, (Nat.le_of_ble_eq_true rfl), ?_⟩
      refine mj_T.pl rfl rfl rfl rfl ?_
      exact mj_T.ret rfl rfl rfl ⟨1, rfl, ⟨n + 1, by omega, by omega, w.thr o1⟩, jLf.of o1⟩
-- PolyRegistersLaw.areSame(LPolyRegisters;II[J)I
theorem jw_332 {D n p0 q : Nat} {tm : Int} {h : mj_H} {K L : Nat → Nat} {R : Nat → Nat → Nat} {p1 : Int} {p2 : Int} (ty : jTY K L R) (w : jLw K L R q n tm h) (kp0 : K p0 = 19) (rp1 : -2147483648 ≤ p1 ∧ p1 ≤ 2147483647) (rp2 : -2147483648 ≤ p2 ∧ p2 ≤ 2147483647) : mj_Ok (D + 3) 332 [.ref p0, .int (jn p1), .int (jn p2), .ref q] h (jWr K L R q n tm h) := by
  have hg : h.length ≤ n := Nat.le_of_eq w.1.1
  refine mj_Ok.of (M := mj_m332) (loc := [some (.ref p0), some (.int (jn p1)), some (.int (jn p2)), some (.ref q), none]) rfl rfl rfl ?_
  iterate 5 refine mj_T.pl rfl rfl rfl rfl ?_
  refine mj_T.call rfl rfl (Nat.le_of_ble_eq_true rfl) (Nat.le_of_ble_eq_true rfl) (jrv_of w.1 kp0 (by decide) rfl (by decide) rfl _) rfl (mj_Ok.to (jc_126 (D := D) ty hg w.1 kp0 rp1 rp2) (fun _ k => jQp.toQ w.1 k)) (fun v h1 hq => ?_) (fun i h1 hq => ?_)
  · obtain ⟨hv, o1⟩ := hq
    obtain ⟨z, _, _, rfl⟩ := hv
    refine mj_T.eq (pc2 := 8) (st2 := [.int (jn z), .int (jn 0), .ref q]) ?_ rfl rfl rfl rfl
    refine jT.if0 rfl ⟨by omega, by omega⟩ (fun _ => ?_) (fun _ => ?_)
    · refine mj_T.pl rfl rfl rfl rfl ?_
      refine jW.last w o1 rfl (fun h2 w2 f2 _ => ?_)
      iterate 2 refine mj_T.pl rfl rfl rfl rfl ?_
      exact mj_T.ret rfl rfl rfl ⟨0, rfl, ⟨n, by omega, by omega, w2⟩, f2⟩
    · iterate 2 refine mj_T.pl rfl rfl rfl rfl ?_
      refine jW.last w o1 rfl (fun h2 w2 f2 _ => ?_)
      iterate 2 refine mj_T.pl rfl rfl rfl rfl ?_
      exact mj_T.ret rfl rfl rfl ⟨0, rfl, ⟨n, by omega, by omega, w2⟩, f2⟩
  · obtain ⟨hi, o1⟩ := hq
    simp only [List.mem_cons, List.not_mem_nil, or_false] at hi
    · subst hi
      refine Or.inr ⟨4, 22, rfl, (Nat.le_of_ble_eq_true rfl), ?_⟩
      refine mj_T.pl rfl rfl rfl rfl ?_
      exact mj_T.ret rfl rfl rfl ⟨1, rfl, ⟨n + 1, by omega, by omega, w.thr o1⟩, jLf.of o1⟩
-- PolyRegistersLaw.agreements(LPolyRegisters;II[J)I
theorem jw_333 {D n p0 q : Nat} {tm : Int} {h : mj_H} {K L : Nat → Nat} {R : Nat → Nat → Nat} {p1 : Int} {p2 : Int} (ty : jTY K L R) (w : jLw K L R q n tm h) (kp0 : K p0 = 19) (rp1 : -2147483648 ≤ p1 ∧ p1 ≤ 2147483647) (rp2 : -2147483648 ≤ p2 ∧ p2 ≤ 2147483647) : mj_Ok (D + 6) 333 [.ref p0, .int (jn p1), .int (jn p2), .ref q] h (jWr K L R q n tm h) := by
  have hg : h.length ≤ n := Nat.le_of_eq w.1.1
  refine mj_Ok.of (M := mj_m333) (loc := [some (.ref p0), some (.int (jn p1)), some (.int (jn p2)), some (.ref q), none]) rfl rfl rfl ?_
  iterate 5 refine mj_T.pl rfl rfl rfl rfl ?_
  refine mj_T.call rfl rfl (Nat.le_of_ble_eq_true rfl) (Nat.le_of_ble_eq_true rfl) (jrv_of w.1 kp0 (by decide) rfl (by decide) rfl _) rfl (jc_127 (D := D) ty hg w.1 kp0 rp1 rp2) (fun v h1 hq => ?_) (fun i h1 hq => ?_)
  · obtain ⟨hv, o1⟩ := hq
    obtain ⟨z, _, _, rfl⟩ := hv
    refine mj_T.step rfl rfl rfl ?_
    refine jW.last w o1 rfl (fun h2 w2 f2 _ => ?_)
    iterate 2 refine mj_T.pl rfl rfl rfl rfl ?_
    exact mj_T.ret rfl rfl rfl ⟨0, rfl, ⟨n, by omega, by omega, w2⟩, f2⟩
  · obtain ⟨hi, o1⟩ := hq
    simp only [List.mem_cons, List.not_mem_nil, or_false] at hi
    · subst hi
      refine Or.inr ⟨4, 15, rfl, (Nat.le_of_ble_eq_true rfl), ?_⟩
      refine mj_T.pl rfl rfl rfl rfl ?_
      exact mj_T.ret rfl rfl rfl ⟨1, rfl, ⟨n + 1, by omega, by omega, w.thr o1⟩, jLf.of o1⟩
-- PolyRegistersLaw.digit(LPolyRegisters;ZI[J)I
theorem jw_334 {D n p0 q : Nat} {tm : Int} {h : mj_H} {K L : Nat → Nat} {R : Nat → Nat → Nat} {p1 : Int} {p2 : Int} (ty : jTY K L R) (w : jLw K L R q n tm h) (kp0 : K p0 = 19) (ap1 : 0 ≤ p1 ∧ p1 ≤ 1) (rp2 : -2147483648 ≤ p2 ∧ p2 ≤ 2147483647) : mj_Ok (D + 4) 334 [.ref p0, .int (jn p1), .int (jn p2), .ref q] h (jWr K L R q n tm h) := by
  have hg : h.length ≤ n := Nat.le_of_eq w.1.1
  refine mj_Ok.of (M := mj_m334) (loc := [some (.ref p0), some (.int (jn p1)), some (.int (jn p2)), some (.ref q), none]) rfl rfl rfl ?_
  iterate 5 refine mj_T.pl rfl rfl rfl rfl ?_
  refine mj_T.call rfl rfl (Nat.le_of_ble_eq_true rfl) (Nat.le_of_ble_eq_true rfl) (jrv_of w.1 kp0 (by decide) rfl (by decide) rfl _) rfl (mj_Ok.to (jc_129 (D := D) ty hg w.1 kp0 ap1 rp2) (fun _ k => jQp.toQ w.1 k)) (fun v h1 hq => ?_) (fun i h1 hq => ?_)
  · obtain ⟨hv, o1⟩ := hq
    obtain ⟨z, _, _, rfl⟩ := hv
    refine mj_T.step rfl rfl rfl ?_
    refine jW.last w o1 rfl (fun h2 w2 f2 _ => ?_)
    iterate 2 refine mj_T.pl rfl rfl rfl rfl ?_
    exact mj_T.ret rfl rfl rfl ⟨0, rfl, ⟨n, by omega, by omega, w2⟩, f2⟩
  · obtain ⟨hi, o1⟩ := hq
    simp only [List.mem_cons, List.not_mem_nil, or_false] at hi
    · subst hi
      refine Or.inr ⟨4, 15, rfl, (Nat.le_of_ble_eq_true rfl), ?_⟩
      refine mj_T.pl rfl rfl rfl rfl ?_
      exact mj_T.ret rfl rfl rfl ⟨1, rfl, ⟨n + 1, by omega, by omega, w.thr o1⟩, jLf.of o1⟩
-- PolyRegistersLaw.realRoots(LPolyRegisters;I[J)I
theorem jw_335 {D n p0 q : Nat} {tm : Int} {h : mj_H} {K L : Nat → Nat} {R : Nat → Nat → Nat} {p1 : Int} (ty : jTY K L R) (w : jLw K L R q n tm h) (kp0 : K p0 = 19) (rp1 : -2147483648 ≤ p1 ∧ p1 ≤ 2147483647) : mj_Ok (D + 8) 335 [.ref p0, .int (jn p1), .ref q] h (jWr K L R q n tm h) := by
  have hg : h.length ≤ n := Nat.le_of_eq w.1.1
  refine mj_Ok.of (M := mj_m335) (loc := [some (.ref p0), some (.int (jn p1)), some (.ref q), none]) rfl rfl rfl ?_
  iterate 4 refine mj_T.pl rfl rfl rfl rfl ?_
  refine mj_T.call rfl rfl (Nat.le_of_ble_eq_true rfl) (Nat.le_of_ble_eq_true rfl) (jrv_of w.1 kp0 (by decide) rfl (by decide) rfl _) rfl (jc_131 (D := D) ty hg w.1 kp0 rp1) (fun v h1 hq => ?_) (fun i h1 hq => ?_)
  · obtain ⟨hv, o1⟩ := hq
    obtain ⟨z, _, _, rfl⟩ := hv
    refine mj_T.step rfl rfl rfl ?_
    refine jW.last w o1 rfl (fun h2 w2 f2 _ => ?_)
    iterate 2 refine mj_T.pl rfl rfl rfl rfl ?_
    exact mj_T.ret rfl rfl rfl ⟨0, rfl, ⟨n, by omega, by omega, w2⟩, f2⟩
  · obtain ⟨hi, o1⟩ := hq
    simp only [List.mem_cons, List.not_mem_nil, or_false] at hi
    rcases hi with hi | hi
    · subst hi
      refine Or.inr ⟨3, 13, rfl, (Nat.le_of_ble_eq_true rfl), ?_⟩
      refine mj_T.pl rfl rfl rfl rfl ?_
      exact mj_T.ret rfl rfl rfl ⟨1, rfl, ⟨n + 1, by omega, by omega, w.thr o1⟩, jLf.of o1⟩
    · subst hi
      refine Or.inr ⟨3, 16, rfl, (Nat.le_of_ble_eq_true rfl), ?_⟩
      refine mj_T.pl rfl rfl rfl rfl ?_
      exact mj_T.ret rfl rfl rfl ⟨2, rfl, ⟨n + 1, by omega, by omega, w.thr o1⟩, jLf.of o1⟩
-- PolyRegistersLaw.rootsBetween(LPolyRegisters;IIIII[J)I
theorem jw_336 {D n p0 q : Nat} {tm : Int} {h : mj_H} {K L : Nat → Nat} {R : Nat → Nat → Nat} {p1 : Int} {p2 : Int} {p3 : Int} {p4 : Int} {p5 : Int} (ty : jTY K L R) (w : jLw K L R q n tm h) (kp0 : K p0 = 19) (rp1 : -2147483648 ≤ p1 ∧ p1 ≤ 2147483647) (rp2 : -2147483648 ≤ p2 ∧ p2 ≤ 2147483647) (rp3 : -2147483648 ≤ p3 ∧ p3 ≤ 2147483647) (rp4 : -2147483648 ≤ p4 ∧ p4 ≤ 2147483647) (rp5 : -2147483648 ≤ p5 ∧ p5 ≤ 2147483647) : mj_Ok (D + 8) 336 [.ref p0, .int (jn p1), .int (jn p2), .int (jn p3), .int (jn p4), .int (jn p5), .ref q] h (jWr K L R q n tm h) := by
  have hg : h.length ≤ n := Nat.le_of_eq w.1.1
  refine mj_Ok.of (M := mj_m336) (loc := [some (.ref p0), some (.int (jn p1)), some (.int (jn p2)), some (.int (jn p3)), some (.int (jn p4)), some (.int (jn p5)), some (.ref q), none]) rfl rfl rfl ?_
  iterate 8 refine mj_T.pl rfl rfl rfl rfl ?_
  refine mj_T.call rfl rfl (Nat.le_of_ble_eq_true rfl) (Nat.le_of_ble_eq_true rfl) (jrv_of w.1 kp0 (by decide) rfl (by decide) rfl _) rfl (jc_132 (D := D) ty hg w.1 kp0 rp1 rp2 rp3 rp4 rp5) (fun v h1 hq => ?_) (fun i h1 hq => ?_)
  · obtain ⟨hv, o1⟩ := hq
    obtain ⟨z, _, _, rfl⟩ := hv
    refine mj_T.step rfl rfl rfl ?_
    refine jW.last w o1 rfl (fun h2 w2 f2 _ => ?_)
    iterate 2 refine mj_T.pl rfl rfl rfl rfl ?_
    exact mj_T.ret rfl rfl rfl ⟨0, rfl, ⟨n, by omega, by omega, w2⟩, f2⟩
  · obtain ⟨hi, o1⟩ := hq
    simp only [List.mem_cons, List.not_mem_nil, or_false] at hi
    rcases hi with hi | hi | hi | hi
    · subst hi
      refine Or.inr ⟨7, 21, rfl, (Nat.le_of_ble_eq_true rfl), ?_⟩
      refine mj_T.pl rfl rfl rfl rfl ?_
      exact mj_T.ret rfl rfl rfl ⟨1, rfl, ⟨n + 1, by omega, by omega, w.thr o1⟩, jLf.of o1⟩
    · subst hi
      refine Or.inr ⟨7, 25, rfl, (Nat.le_of_ble_eq_true rfl), ?_⟩
      refine mj_T.pl rfl rfl rfl rfl ?_
      exact mj_T.ret rfl rfl rfl ⟨2, rfl, ⟨n + 1, by omega, by omega, w.thr o1⟩, jLf.of o1⟩
    · subst hi
      refine Or.inr ⟨7, 29, rfl, (Nat.le_of_ble_eq_true rfl), ?_⟩
      refine mj_T.pl rfl rfl rfl rfl ?_
      exact mj_T.ret rfl rfl rfl ⟨3, rfl, ⟨n + 1, by omega, by omega, w.thr o1⟩, jLf.of o1⟩
    · subst hi
      refine Or.inr ⟨7, 33, rfl, (Nat.le_of_ble_eq_true rfl), ?_⟩
      refine mj_T.pl rfl rfl rfl rfl ?_
      exact mj_T.ret rfl rfl rfl ⟨4, rfl, ⟨n + 1, by omega, by omega, w.thr o1⟩, jLf.of o1⟩
-- PolyRegistersLaw.sturmLength(LPolyRegisters;I[J)I
theorem jw_337 {D n p0 q : Nat} {tm : Int} {h : mj_H} {K L : Nat → Nat} {R : Nat → Nat → Nat} {p1 : Int} (ty : jTY K L R) (w : jLw K L R q n tm h) (kp0 : K p0 = 19) (rp1 : -2147483648 ≤ p1 ∧ p1 ≤ 2147483647) : mj_Ok (D + 8) 337 [.ref p0, .int (jn p1), .ref q] h (jWr K L R q n tm h) := by
  have hg : h.length ≤ n := Nat.le_of_eq w.1.1
  refine mj_Ok.of (M := mj_m337) (loc := [some (.ref p0), some (.int (jn p1)), some (.ref q), none]) rfl rfl rfl ?_
  iterate 4 refine mj_T.pl rfl rfl rfl rfl ?_
  refine mj_T.call rfl rfl (Nat.le_of_ble_eq_true rfl) (Nat.le_of_ble_eq_true rfl) (jrv_of w.1 kp0 (by decide) rfl (by decide) rfl _) rfl (jc_133 (D := D) ty hg w.1 kp0 rp1) (fun v h1 hq => ?_) (fun i h1 hq => ?_)
  · obtain ⟨hv, o1⟩ := hq
    obtain ⟨z, _, _, rfl⟩ := hv
    refine mj_T.step rfl rfl rfl ?_
    refine jW.last w o1 rfl (fun h2 w2 f2 _ => ?_)
    iterate 2 refine mj_T.pl rfl rfl rfl rfl ?_
    exact mj_T.ret rfl rfl rfl ⟨0, rfl, ⟨n, by omega, by omega, w2⟩, f2⟩
  · obtain ⟨hi, o1⟩ := hq
    simp only [List.mem_cons, List.not_mem_nil, or_false] at hi
    rcases hi with hi | hi
    · subst hi
      refine Or.inr ⟨3, 13, rfl, (Nat.le_of_ble_eq_true rfl), ?_⟩
      refine mj_T.pl rfl rfl rfl rfl ?_
      exact mj_T.ret rfl rfl rfl ⟨1, rfl, ⟨n + 1, by omega, by omega, w.thr o1⟩, jLf.of o1⟩
    · subst hi
      refine Or.inr ⟨3, 16, rfl, (Nat.le_of_ble_eq_true rfl), ?_⟩
      refine mj_T.pl rfl rfl rfl rfl ?_
      exact mj_T.ret rfl rfl rfl ⟨2, rfl, ⟨n + 1, by omega, by omega, w.thr o1⟩, jLf.of o1⟩
-- PolyRegistersLaw.changes(LPolyRegisters;III[J)I
theorem jw_338 {D n p0 q : Nat} {tm : Int} {h : mj_H} {K L : Nat → Nat} {R : Nat → Nat → Nat} {p1 : Int} {p2 : Int} {p3 : Int} (ty : jTY K L R) (w : jLw K L R q n tm h) (kp0 : K p0 = 19) (rp1 : -2147483648 ≤ p1 ∧ p1 ≤ 2147483647) (rp2 : -2147483648 ≤ p2 ∧ p2 ≤ 2147483647) (rp3 : -2147483648 ≤ p3 ∧ p3 ≤ 2147483647) : mj_Ok (D + 8) 338 [.ref p0, .int (jn p1), .int (jn p2), .int (jn p3), .ref q] h (jWr K L R q n tm h) := by
  have hg : h.length ≤ n := Nat.le_of_eq w.1.1
  refine mj_Ok.of (M := mj_m338) (loc := [some (.ref p0), some (.int (jn p1)), some (.int (jn p2)), some (.int (jn p3)), some (.ref q), none]) rfl rfl rfl ?_
  iterate 6 refine mj_T.pl rfl rfl rfl rfl ?_
  refine mj_T.call rfl rfl (Nat.le_of_ble_eq_true rfl) (Nat.le_of_ble_eq_true rfl) (jrv_of w.1 kp0 (by decide) rfl (by decide) rfl _) rfl (jc_134 (D := D) ty hg w.1 kp0 rp1 rp2 rp3) (fun v h1 hq => ?_) (fun i h1 hq => ?_)
  · obtain ⟨hv, o1⟩ := hq
    obtain ⟨z, _, _, rfl⟩ := hv
    refine mj_T.step rfl rfl rfl ?_
    refine jW.last w o1 rfl (fun h2 w2 f2 _ => ?_)
    iterate 2 refine mj_T.pl rfl rfl rfl rfl ?_
    exact mj_T.ret rfl rfl rfl ⟨0, rfl, ⟨n, by omega, by omega, w2⟩, f2⟩
  · obtain ⟨hi, o1⟩ := hq
    simp only [List.mem_cons, List.not_mem_nil, or_false] at hi
    rcases hi with hi | hi | hi
    · subst hi
      refine Or.inr ⟨5, 17, rfl, (Nat.le_of_ble_eq_true rfl), ?_⟩
      refine mj_T.pl rfl rfl rfl rfl ?_
      exact mj_T.ret rfl rfl rfl ⟨1, rfl, ⟨n + 1, by omega, by omega, w.thr o1⟩, jLf.of o1⟩
    · subst hi
      refine Or.inr ⟨5, 21, rfl, (Nat.le_of_ble_eq_true rfl), ?_⟩
      refine mj_T.pl rfl rfl rfl rfl ?_
      exact mj_T.ret rfl rfl rfl ⟨2, rfl, ⟨n + 1, by omega, by omega, w.thr o1⟩, jLf.of o1⟩
    · subst hi
      refine Or.inr ⟨5, 25, rfl, (Nat.le_of_ble_eq_true rfl), ?_⟩
      refine mj_T.pl rfl rfl rfl rfl ?_
      exact mj_T.ret rfl rfl rfl ⟨3, rfl, ⟨n + 1, by omega, by omega, w.thr o1⟩, jLf.of o1⟩
-- PolyRegistersLaw.closeIn(LPolyRegisters;III[J)I
theorem jw_339 {D n p0 q : Nat} {tm : Int} {h : mj_H} {K L : Nat → Nat} {R : Nat → Nat → Nat} {p1 : Int} {p2 : Int} {p3 : Int} (ty : jTY K L R) (w : jLw K L R q n tm h) (kp0 : K p0 = 19) (rp1 : -2147483648 ≤ p1 ∧ p1 ≤ 2147483647) (rp2 : -2147483648 ≤ p2 ∧ p2 ≤ 2147483647) (rp3 : -2147483648 ≤ p3 ∧ p3 ≤ 2147483647) : mj_Ok (D + 8) 339 [.ref p0, .int (jn p1), .int (jn p2), .int (jn p3), .ref q] h (jWr K L R q n tm h) := by
  have hg : h.length ≤ n := Nat.le_of_eq w.1.1
  refine mj_Ok.of (M := mj_m339) (loc := [some (.ref p0), some (.int (jn p1)), some (.int (jn p2)), some (.int (jn p3)), some (.ref q), none]) rfl rfl rfl ?_
  iterate 6 refine mj_T.pl rfl rfl rfl rfl ?_
  refine mj_T.call rfl rfl (Nat.le_of_ble_eq_true rfl) (Nat.le_of_ble_eq_true rfl) (jrv_of w.1 kp0 (by decide) rfl (by decide) rfl _) rfl (jc_135 (D := D) ty hg w.1 kp0 rp1 rp2 rp3) (fun v h1 hq => ?_) (fun i h1 hq => ?_)
  · obtain ⟨hv, o1⟩ := hq
    obtain ⟨z, _, _, rfl⟩ := hv
    refine mj_T.step rfl rfl rfl ?_
    refine jW.last w o1 rfl (fun h2 w2 f2 _ => ?_)
    iterate 2 refine mj_T.pl rfl rfl rfl rfl ?_
    exact mj_T.ret rfl rfl rfl ⟨0, rfl, ⟨n, by omega, by omega, w2⟩, f2⟩
  · obtain ⟨hi, o1⟩ := hq
    simp only [List.mem_cons, List.not_mem_nil, or_false] at hi
    rcases hi with hi | hi
    · subst hi
      refine Or.inr ⟨5, 17, rfl, (Nat.le_of_ble_eq_true rfl), ?_⟩
      refine mj_T.pl rfl rfl rfl rfl ?_
      exact mj_T.ret rfl rfl rfl ⟨1, rfl, ⟨n + 1, by omega, by omega, w.thr o1⟩, jLf.of o1⟩
    · subst hi
      refine Or.inr ⟨5, 21, rfl, (Nat.le_of_ble_eq_true rfl), ?_⟩
      refine mj_T.pl rfl rfl rfl rfl ?_
      exact mj_T.ret rfl rfl rfl ⟨2, rfl, ⟨n + 1, by omega, by omega, w.thr o1⟩, jLf.of o1⟩
-- PolyRegistersLaw.fractionRoots(LPolyRegisters;I[J)I
theorem jw_340 {D n p0 q : Nat} {tm : Int} {h : mj_H} {K L : Nat → Nat} {R : Nat → Nat → Nat} {p1 : Int} (ty : jTY K L R) (w : jLw K L R q n tm h) (kp0 : K p0 = 19) (rp1 : -2147483648 ≤ p1 ∧ p1 ≤ 2147483647) : mj_Ok (D + 8) 340 [.ref p0, .int (jn p1), .ref q] h (jWr K L R q n tm h) := by
  have hg : h.length ≤ n := Nat.le_of_eq w.1.1
  refine mj_Ok.of (M := mj_m340) (loc := [some (.ref p0), some (.int (jn p1)), some (.ref q), none]) rfl rfl rfl ?_
  iterate 4 refine mj_T.pl rfl rfl rfl rfl ?_
  refine mj_T.call rfl rfl (Nat.le_of_ble_eq_true rfl) (Nat.le_of_ble_eq_true rfl) (jrv_of w.1 kp0 (by decide) rfl (by decide) rfl _) rfl (jc_136 (D := D) ty hg w.1 kp0 rp1) (fun v h1 hq => ?_) (fun i h1 hq => ?_)
  · obtain ⟨hv, o1⟩ := hq
    obtain ⟨z, _, _, rfl⟩ := hv
    refine mj_T.step rfl rfl rfl ?_
    refine jW.last w o1 rfl (fun h2 w2 f2 _ => ?_)
    iterate 2 refine mj_T.pl rfl rfl rfl rfl ?_
    exact mj_T.ret rfl rfl rfl ⟨0, rfl, ⟨n, by omega, by omega, w2⟩, f2⟩
  · obtain ⟨hi, o1⟩ := hq
    simp only [List.mem_cons, List.not_mem_nil, or_false] at hi
    rcases hi with hi | hi
    · subst hi
      refine Or.inr ⟨3, 13, rfl, (Nat.le_of_ble_eq_true rfl), ?_⟩
      refine mj_T.pl rfl rfl rfl rfl ?_
      exact mj_T.ret rfl rfl rfl ⟨1, rfl, ⟨n + 1, by omega, by omega, w.thr o1⟩, jLf.of o1⟩
    · subst hi
      refine Or.inr ⟨3, 16, rfl, (Nat.le_of_ble_eq_true rfl), ?_⟩
      refine mj_T.pl rfl rfl rfl rfl ?_
      exact mj_T.ret rfl rfl rfl ⟨2, rfl, ⟨n + 1, by omega, by omega, w.thr o1⟩, jLf.of o1⟩
-- PolyRegistersLaw.fractionRoot(LPolyRegisters;II[J)I
theorem jw_341 {D n p0 q : Nat} {tm : Int} {h : mj_H} {K L : Nat → Nat} {R : Nat → Nat → Nat} {p1 : Int} {p2 : Int} (ty : jTY K L R) (w : jLw K L R q n tm h) (kp0 : K p0 = 19) (rp1 : -2147483648 ≤ p1 ∧ p1 ≤ 2147483647) (rp2 : -2147483648 ≤ p2 ∧ p2 ≤ 2147483647) : mj_Ok (D + 8) 341 [.ref p0, .int (jn p1), .int (jn p2), .ref q] h (jWr K L R q n tm h) := by
  have hg : h.length ≤ n := Nat.le_of_eq w.1.1
  refine mj_Ok.of (M := mj_m341) (loc := [some (.ref p0), some (.int (jn p1)), some (.int (jn p2)), some (.ref q), none]) rfl rfl rfl ?_
  iterate 5 refine mj_T.pl rfl rfl rfl rfl ?_
  refine mj_T.call rfl rfl (Nat.le_of_ble_eq_true rfl) (Nat.le_of_ble_eq_true rfl) (jrv_of w.1 kp0 (by decide) rfl (by decide) rfl _) rfl (jc_137 (D := D) ty hg w.1 kp0 rp1 rp2) (fun v h1 hq => ?_) (fun i h1 hq => ?_)
  · obtain ⟨hv, o1⟩ := hq
    obtain ⟨z, _, _, rfl⟩ := hv
    refine mj_T.step rfl rfl rfl ?_
    refine jW.last w o1 rfl (fun h2 w2 f2 _ => ?_)
    iterate 2 refine mj_T.pl rfl rfl rfl rfl ?_
    exact mj_T.ret rfl rfl rfl ⟨0, rfl, ⟨n, by omega, by omega, w2⟩, f2⟩
  · obtain ⟨hi, o1⟩ := hq
    simp only [List.mem_cons, List.not_mem_nil, or_false] at hi
    · subst hi
      refine Or.inr ⟨4, 15, rfl, (Nat.le_of_ble_eq_true rfl), ?_⟩
      refine mj_T.pl rfl rfl rfl rfl ?_
      exact mj_T.ret rfl rfl rfl ⟨1, rfl, ⟨n + 1, by omega, by omega, w.thr o1⟩, jLf.of o1⟩
-- PolyRegistersLaw.rootsBy(LPolyRegisters;II[J)I
theorem jw_342 {D n p0 q : Nat} {tm : Int} {h : mj_H} {K L : Nat → Nat} {R : Nat → Nat → Nat} {p1 : Int} {p2 : Int} (ty : jTY K L R) (w : jLw K L R q n tm h) (kp0 : K p0 = 19) (rp1 : -2147483648 ≤ p1 ∧ p1 ≤ 2147483647) (rp2 : -2147483648 ≤ p2 ∧ p2 ≤ 2147483647) : mj_Ok (D + 4) 342 [.ref p0, .int (jn p1), .int (jn p2), .ref q] h (jWr K L R q n tm h) := by
  have hg : h.length ≤ n := Nat.le_of_eq w.1.1
  refine mj_Ok.of (M := mj_m342) (loc := [some (.ref p0), some (.int (jn p1)), some (.int (jn p2)), some (.ref q), none]) rfl rfl rfl ?_
  iterate 5 refine mj_T.pl rfl rfl rfl rfl ?_
  refine mj_T.call rfl rfl (Nat.le_of_ble_eq_true rfl) (Nat.le_of_ble_eq_true rfl) (jrv_of w.1 kp0 (by decide) rfl (by decide) rfl _) rfl (mj_Ok.to (jc_138 (D := D) ty hg w.1 kp0 rp1 rp2) (fun _ k => jQp.toQ w.1 k)) (fun v h1 hq => ?_) (fun i h1 hq => ?_)
  · obtain ⟨hv, o1⟩ := hq
    obtain ⟨z, _, _, rfl⟩ := hv
    refine mj_T.step rfl rfl rfl ?_
    refine jW.last w o1 rfl (fun h2 w2 f2 _ => ?_)
    iterate 2 refine mj_T.pl rfl rfl rfl rfl ?_
    exact mj_T.ret rfl rfl rfl ⟨0, rfl, ⟨n, by omega, by omega, w2⟩, f2⟩
  · obtain ⟨hi, o1⟩ := hq
    simp only [List.mem_cons, List.not_mem_nil, or_false] at hi
    rcases hi with hi | hi
    · subst hi
      refine Or.inr ⟨4, 15, rfl, (Nat.le_of_ble_eq_true rfl), ?_⟩
      refine mj_T.pl rfl rfl rfl rfl ?_
      exact mj_T.ret rfl rfl rfl ⟨1, rfl, ⟨n + 1, by omega, by omega, w.thr o1⟩, jLf.of o1⟩
    · subst hi
      refine Or.inr ⟨4, 19, rfl, (Nat.le_of_ble_eq_true rfl), ?_⟩
      refine mj_T.pl rfl rfl rfl rfl ?_
      exact mj_T.ret rfl rfl rfl ⟨2, rfl, ⟨n + 1, by omega, by omega, w.thr o1⟩, jLf.of o1⟩
-- PolyRegistersLaw.rootBy(LPolyRegisters;II[J)I
theorem jw_343 {D n p0 q : Nat} {tm : Int} {h : mj_H} {K L : Nat → Nat} {R : Nat → Nat → Nat} {p1 : Int} {p2 : Int} (ty : jTY K L R) (w : jLw K L R q n tm h) (kp0 : K p0 = 19) (rp1 : -2147483648 ≤ p1 ∧ p1 ≤ 2147483647) (rp2 : -2147483648 ≤ p2 ∧ p2 ≤ 2147483647) : mj_Ok (D + 4) 343 [.ref p0, .int (jn p1), .int (jn p2), .ref q] h (jWr K L R q n tm h) := by
  have hg : h.length ≤ n := Nat.le_of_eq w.1.1
  refine mj_Ok.of (M := mj_m343) (loc := [some (.ref p0), some (.int (jn p1)), some (.int (jn p2)), some (.ref q), none]) rfl rfl rfl ?_
  iterate 5 refine mj_T.pl rfl rfl rfl rfl ?_
  refine mj_T.call rfl rfl (Nat.le_of_ble_eq_true rfl) (Nat.le_of_ble_eq_true rfl) (jrv_of w.1 kp0 (by decide) rfl (by decide) rfl _) rfl (mj_Ok.to (jc_139 (D := D) ty hg w.1 kp0 rp1 rp2) (fun _ k => jQp.toQ w.1 k)) (fun v h1 hq => ?_) (fun i h1 hq => ?_)
  · obtain ⟨hv, o1⟩ := hq
    obtain ⟨z, _, _, rfl⟩ := hv
    refine mj_T.step rfl rfl rfl ?_
    refine jW.last w o1 rfl (fun h2 w2 f2 _ => ?_)
    iterate 2 refine mj_T.pl rfl rfl rfl rfl ?_
    exact mj_T.ret rfl rfl rfl ⟨0, rfl, ⟨n, by omega, by omega, w2⟩, f2⟩
  · obtain ⟨hi, o1⟩ := hq
    simp only [List.mem_cons, List.not_mem_nil, or_false] at hi
    rcases hi with hi | hi | hi
    · subst hi
      refine Or.inr ⟨4, 15, rfl, (Nat.le_of_ble_eq_true rfl), ?_⟩
      refine mj_T.pl rfl rfl rfl rfl ?_
      exact mj_T.ret rfl rfl rfl ⟨1, rfl, ⟨n + 1, by omega, by omega, w.thr o1⟩, jLf.of o1⟩
    · subst hi
      refine Or.inr ⟨4, 19, rfl, (Nat.le_of_ble_eq_true rfl), ?_⟩
      refine mj_T.pl rfl rfl rfl rfl ?_
      exact mj_T.ret rfl rfl rfl ⟨2, rfl, ⟨n + 1, by omega, by omega, w.thr o1⟩, jLf.of o1⟩
    · subst hi
      refine Or.inr ⟨4, 23, rfl, (Nat.le_of_ble_eq_true rfl), ?_⟩
      refine mj_T.pl rfl rfl rfl rfl ?_
      exact mj_T.ret rfl rfl rfl ⟨3, rfl, ⟨n + 1, by omega, by omega, w.thr o1⟩, jLf.of o1⟩
-- PolyRegistersLaw.write(LPolyRegisters;I[J)I
theorem jw_345 {D n p0 q : Nat} {tm : Int} {h : mj_H} {K L : Nat → Nat} {R : Nat → Nat → Nat} {p1 : Int} (ty : jTY K L R) (w : jLw K L R q n tm h) (kp0 : K p0 = 19) (rp1 : -2147483648 ≤ p1 ∧ p1 ≤ 2147483647) : mj_Ok (D + 6) 345 [.ref p0, .int (jn p1), .ref q] h (jWr K L R q n tm h) := by
  have hg : h.length ≤ n := Nat.le_of_eq w.1.1
  refine mj_Ok.of (M := mj_m345) (loc := [some (.ref p0), some (.int (jn p1)), some (.ref q), none]) rfl rfl rfl ?_
  iterate 4 refine mj_T.pl rfl rfl rfl rfl ?_
  refine mj_T.call rfl rfl (Nat.le_of_ble_eq_true rfl) (Nat.le_of_ble_eq_true rfl) (jrv_of w.1 kp0 (by decide) rfl (by decide) rfl _) rfl (jc_144 (D := D) ty hg w.1 kp0 rp1) (fun v h1 hq => ?_) (fun i h1 hq => ?_)
  · obtain ⟨hv, o1⟩ := hq
    obtain ⟨z, _, _, rfl⟩ := hv
    refine mj_T.step rfl rfl rfl ?_
    refine jW.last w o1 rfl (fun h2 w2 f2 _ => ?_)
    iterate 2 refine mj_T.pl rfl rfl rfl rfl ?_
    exact mj_T.ret rfl rfl rfl ⟨0, rfl, ⟨n, by omega, by omega, w2⟩, f2⟩
  · obtain ⟨hi, o1⟩ := hq
    simp only [List.mem_cons, List.not_mem_nil, or_false] at hi
    · subst hi
      refine Or.inr ⟨3, 13, rfl, (Nat.le_of_ble_eq_true rfl), ?_⟩
      refine mj_T.pl rfl rfl rfl rfl ?_
      exact mj_T.ret rfl rfl rfl ⟨1, rfl, ⟨n + 1, by omega, by omega, w.thr o1⟩, jLf.of o1⟩
-- PolyRegistersLaw.writtenAt(LPolyRegisters;I[J)I
theorem jw_346 {D n p0 q : Nat} {tm : Int} {h : mj_H} {K L : Nat → Nat} {R : Nat → Nat → Nat} {p1 : Int} (ty : jTY K L R) (w : jLw K L R q n tm h) (kp0 : K p0 = 19) (rp1 : -2147483648 ≤ p1 ∧ p1 ≤ 2147483647) : mj_Ok (D + 3) 346 [.ref p0, .int (jn p1), .ref q] h (jWr K L R q n tm h) := by
  have hg : h.length ≤ n := Nat.le_of_eq w.1.1
  refine mj_Ok.of (M := mj_m346) (loc := [some (.ref p0), some (.int (jn p1)), some (.ref q), none]) rfl rfl rfl ?_
  iterate 4 refine mj_T.pl rfl rfl rfl rfl ?_
  refine mj_T.call rfl rfl (Nat.le_of_ble_eq_true rfl) (Nat.le_of_ble_eq_true rfl) (jrv_of w.1 kp0 (by decide) rfl (by decide) rfl _) rfl (mj_Ok.to (jc_145 (D := D) ty hg w.1 kp0 rp1) (fun _ k => jQp.toQ w.1 k)) (fun v h1 hq => ?_) (fun i h1 hq => ?_)
  · obtain ⟨hv, o1⟩ := hq
    obtain ⟨z, _, _, rfl⟩ := hv
    refine mj_T.step rfl rfl rfl ?_
    refine jW.last w o1 rfl (fun h2 w2 f2 _ => ?_)
    iterate 2 refine mj_T.pl rfl rfl rfl rfl ?_
    exact mj_T.ret rfl rfl rfl ⟨0, rfl, ⟨n, by omega, by omega, w2⟩, f2⟩
  · obtain ⟨hi, o1⟩ := hq
    simp only [List.mem_cons, List.not_mem_nil, or_false] at hi
    · subst hi
      refine Or.inr ⟨3, 13, rfl, (Nat.le_of_ble_eq_true rfl), ?_⟩
      refine mj_T.pl rfl rfl rfl rfl ?_
      exact mj_T.ret rfl rfl rfl ⟨1, rfl, ⟨n + 1, by omega, by omega, w.thr o1⟩, jLf.of o1⟩
/-! The law's append and read around the class's. -/
section JLA
variable {n p0 q : Nat} {tm : Int} {h : mj_H} {K L : Nat → Nat} {R : Nat → Nat → Nat}
theorem jw_344 {D : Nat} {x1 x2 x3 x4 x5 : Int32} (ty : jTY K L R) (w : jLw K L R q n tm h) (kp0 : K p0 = 19) : mj_Ok (D + 4) 344 [.ref p0, .int x1, .int x2, .int x3, .int x4, .int x5, .ref q] h (fun r => (200 < tm + (jcn x1 x2 x3 x4 x5 20 : Int) ∧ r.1 = .inl (some (.int (jn 1))) ∧ jLw K L R q (n + 1) tm r.2 ∧ jLf K q h r.2) ∨ (tm + (jcn x1 x2 x3 x4 x5 20 : Int) ≤ 200 ∧ r.1 = .inl (some (.int (jn 0))) ∧ jLw K L R q n (tm + (jcn x1 x2 x3 x4 x5 20 : Int)) r.2 ∧ jLf K q h r.2 ∧ ∃ f : Nat → Value, f 0 = .long (jl (tm + (jcn x1 x2 x3 x4 x5 20 : Int))) ∧ r.2[q]? = some (.inl (1, 1, f)))) := by
  have hg : h.length ≤ n := Nat.le_of_eq w.1.1
  have ht := w.1.2.1
  refine mj_Ok.of (M := mj_m344) (loc := [some (.ref p0), some (.int x1), some (.int x2), some (.int x3), some (.int x4), some (.int x5), some (.ref q), none]) rfl rfl rfl ?_
  iterate 8 refine mj_T.pl rfl rfl rfl rfl ?_
  refine mj_T.call rfl rfl (Nat.le_of_ble_eq_true rfl) (Nat.le_of_ble_eq_true rfl) (jrv_of w.1 kp0 (by decide) rfl (by decide) rfl _) rfl (jc_141 (D := D) ty hg w.1 kp0) (fun v h1 hq => ?_) (fun i h1 hq => ?_)
  · rcases hq with ⟨_, hv, _⟩ | ⟨ha, hv, o1⟩
    · cases hv
    cases hv
    refine mj_T.eq (pc2 := 14) (st2 := [.int (jn (tm + (jcn x1 x2 x3 x4 x5 20 : Int))), .int (jn 0), .ref q]) ?_ rfl rfl rfl rfl
    refine mj_T.i2l rfl ⟨by omega, by omega⟩ ?_
    refine jW.last w o1 rfl (fun h2 w2 f2 hf => ?_)
    iterate 2 refine mj_T.pl rfl rfl rfl rfl ?_
    refine mj_T.ret rfl rfl rfl (Or.inr ⟨ha, rfl, w2, f2, ?_⟩)
    rcases hf with hf | hf
    · exact ⟨_, rfl, hf⟩
    · exact hf
  · rcases hq with ⟨ha, hv, o1⟩ | ⟨_, hv, _⟩
    · cases hv
      refine Or.inr ⟨7, 21, rfl, (Nat.le_of_ble_eq_true rfl), ?_⟩
      refine mj_T.pl rfl rfl rfl rfl ?_
      exact mj_T.ret rfl rfl rfl (Or.inl ⟨ha, rfl, w.thr o1, jLf.of o1⟩)
    · cases hv
theorem jw_322 {D : Nat} {p1 : Int} (ty : jTY K L R) (w : jLw K L R q n tm h) (kp0 : K p0 = 19) (rp1 : -2147483648 ≤ p1 ∧ p1 ≤ 2147483647) : mj_Ok (D + 57) 322 [.ref p0, .int (jn p1), .ref q] h (fun r => ∃ k : Int, r.1 = .inl (some (.int (jn k))) ∧ (∃ n', n ≤ n' ∧ n' ≤ n + 1 ∧ jLw K L R q n' (if 0 ≤ p1 ∧ p1 ≤ 5 then 0 else tm) r.2) ∧ jLf K q h r.2) := by
  have hg : h.length ≤ n := Nat.le_of_eq w.1.1
  refine mj_Ok.of (M := mj_m322) (loc := [some (.ref p0), some (.int (jn p1)), some (.ref q), none]) rfl rfl rfl ?_
  iterate 4 refine mj_T.pl rfl rfl rfl rfl ?_
  refine mj_T.call rfl rfl (Nat.le_of_ble_eq_true rfl) (Nat.le_of_ble_eq_true rfl) (jrv_of w.1 kp0 (by decide) rfl (by decide) rfl _) rfl (jc_114 (D := D) ty hg w.1 kp0 rp1) (fun v h1 hq => ?_) (fun i h1 hq => ?_)
  · rcases hq with ⟨_, hv, _⟩ | ⟨hp, ⟨z, hv, o1⟩ | ⟨_, _, hv, _⟩⟩
    · cases hv
    · cases hv
      refine mj_T.step rfl rfl rfl ?_
      refine jW.last w o1 rfl (fun h2 w2 f2 _ => ?_)
      iterate 2 refine mj_T.pl rfl rfl rfl rfl ?_
      exact mj_T.ret rfl rfl rfl ⟨0, rfl, ⟨n, by omega, by omega, by rw [if_pos hp]; exact w2⟩, f2⟩
    · cases hv
  · have fin : ∀ k : Int, ∀ t : Int, (if 0 ≤ p1 ∧ p1 ≤ 5 then 0 else tm) = t → jO K L R h (n + 1) t h1 → ∃ k2 : Int, ((Sum.inl (some (Value.int (jn k))) : Option Value ⊕ Nat)) = .inl (some (.int (jn k2))) ∧ (∃ n', n ≤ n' ∧ n' ≤ n + 1 ∧ jLw K L R q n' (if 0 ≤ p1 ∧ p1 ≤ 5 then 0 else tm) h1) ∧ jLf K q h h1 := fun k t e o1 => ⟨k, rfl, ⟨n + 1, by omega, by omega, by rw [e]; exact w.thr o1⟩, jLf.of o1⟩
    rcases hq with ⟨hp, hv, o1⟩ | ⟨hp, ⟨z, hv, o1⟩ | ⟨i2, hi, hv, o1⟩⟩
    · cases hv
      refine Or.inr ⟨3, 13, rfl, (Nat.le_of_ble_eq_true rfl), ?_⟩
      refine mj_T.pl rfl rfl rfl rfl ?_
      exact mj_T.ret rfl rfl rfl (fin 1 _ (if_neg hp) o1)
    · cases hv
    · cases hv
      simp only [List.mem_cons, List.not_mem_nil, or_false] at hi
      rcases hi with hi | hi | hi
      · subst hi
        refine Or.inr ⟨3, 13, rfl, (Nat.le_of_ble_eq_true rfl), ?_⟩
        refine mj_T.pl rfl rfl rfl rfl ?_
        exact mj_T.ret rfl rfl rfl (fin 1 _ (if_pos hp) o1)
      · subst hi
        refine Or.inr ⟨3, 16, rfl, (Nat.le_of_ble_eq_true rfl), ?_⟩
        refine mj_T.pl rfl rfl rfl rfl ?_
        exact mj_T.ret rfl rfl rfl (fin 2 _ (if_pos hp) o1)
      · subst hi
        refine Or.inr ⟨3, 19, rfl, (Nat.le_of_ble_eq_true rfl), ?_⟩
        refine mj_T.pl rfl rfl rfl rfl ?_
        exact mj_T.ret rfl rfl rfl (fin 3 _ (if_pos hp) o1)
end JLA
/-! Arrays of ints hold no addresses: whatever runs, that stays. -/
def jNr (h : mj_H) : Prop := ∀ (a n : Nat) (f : Nat → Value), h[a]? = some (Sum.inl (0, n, f)) → ∀ (i : Nat) (k : Addr), f i ≠ Value.ref k
theorem jNr.set {h : mj_H} (q : jNr h) {a : Nat} {e : mj_E} (he : ∀ n f, e = .inl (0, n, f) → ∀ i k, f i ≠ .ref k) : jNr (h.set a e) := by
  intro b n f hb i k
  by_cases c : a = b
  · subst c
    have hl : a < h.length := by
      have := (List.getElem?_eq_some_iff.mp hb).1
      rwa [List.length_set] at this
    rw [List.getElem?_set_self hl] at hb
    cases hb
    exact he n f rfl i k
  · rw [List.getElem?_set_ne c] at hb
    exact q b n f hb i k
theorem jNr.app {h h2 : mj_H} (q : jNr h) (he : ∀ e ∈ h2, ∀ n f, e = .inl (0, n, f) → ∀ i k, f i ≠ .ref k) : jNr (h ++ h2) := by
  intro b n f hb i k
  by_cases c : b < h.length
  · rw [List.getElem?_append_left c] at hb
    exact q b n f hb i k
  · rw [List.getElem?_append_right (by omega)] at hb
    exact he _ (List.mem_of_getElem? hb) n f rfl i k
theorem jNr.new {h : mj_H} (q : jNr h) {e : mj_E} (he : ∀ n f, e = .inl (0, n, f) → ∀ i k, f i ≠ .ref k) : jNr (h ++ [e]) := q.app (fun e2 h2 => by
  rw [List.mem_singleton.mp h2]
  exact he)
theorem jNr.upd {h : mj_H} (q : jNr h) {a t n : Nat} {f : Nat → Value} (ha : h[a]? = some (.inl (t, n, f))) (i : Nat) {v : Value} (hv : ∀ k, v ≠ .ref k) : jNr (h.set a (.inl (t, n, updV f i v))) := q.set (fun n2 f2 e j k => by
  cases e
  unfold updV
  split
  · exact hv k
  · exact q a _ f ha j k)
theorem jNr.oth {h : mj_H} (q : jNr h) {a t n : Nat} {f : Nat → Value} (ht : t ≠ 0) : jNr (h.set a (.inl (t, n, f))) := q.set (fun n2 f2 e j k => by
  cases e
  exact absurd rfl ht)
theorem jNr.obj {h : mj_H} (q : jNr h) {a c : Nat} {fs : List Value} : jNr (h.set a (.inr (c, fs))) := q.set (fun n2 f2 e j k => by cases e)
theorem mj_df_nr (t k : Nat) : mj_df t ≠ .ref k := by
  unfold mj_df
  split <;> (intro h; cases h)
theorem jNr.newc {h : mj_H} (q : jNr h) {t n : Nat} {v : Value} (hv : ∀ k, v ≠ .ref k) : jNr (h ++ [.inl (t, n, fun _ => v)]) := q.new (fun _ _ e i k => by
  cases e
  exact hv k)
theorem jNr.newo {h : mj_H} (q : jNr h) {c : Nat} {fs : List Value} : jNr (h ++ [.inr (c, fs)]) := q.new (fun _ _ e i k => by cases e)
theorem jNr.rows {h : mj_H} (q : jNr h) {n m k : Nat} {f : Nat → Value} : jNr (h ++ .inl (6, n, f) :: mj_rows m k 0) := q.app (fun e he n2 f2 e2 i j => by
  rcases List.mem_cons.mp he with c | c
  · rw [c] at e2
    cases e2
  · unfold mj_rows at c
    obtain ⟨_, _, c⟩ := List.mem_map.mp c
    rw [← c] at e2
    cases e2)
theorem mj_el_nr {t c : Nat} (e : mj_el t = some c) : t ≠ 0 := by
  intro q
  subst q
  cases e
theorem jNr.step {ins : Instr} {r1 r2 r3 pc pc' : Nat} {loc loc' : mj_L} {st st' : List Value} {h h' : mj_H} (q : jNr h) (hs : mj_step ins r1 r2 r3 mj_new pc loc st h = some (pc', loc', st', h')) : jNr h' := by
  cases ins
  all_goals simp only [mj_step, Option.map_eq_some_iff] at hs
  all_goals (try (cases hs; done))
  all_goals (try (cases hs; exact q))
  all_goals (try (obtain ⟨_, _, hs⟩ := hs; cases hs; exact q))
  all_goals (repeat' split at hs)
  all_goals (try (cases hs; done))
  all_goals (try (cases hs; exact q))
  all_goals (try (cases hs; exact q.obj))
  all_goals (try (cases hs; exact q.newo))
  all_goals (try (cases hs; exact q.rows))
  all_goals (try (cases hs; exact q.newc (fun k => mj_df_nr _ k)))
  all_goals (try (cases hs; exact q.newc (fun _ e => Value.noConfusion e)))
  all_goals (try (cases hs; exact q.upd (by assumption) _ (fun _ e => Value.noConfusion e)))
  all_goals (try (rename_i hh; cases hs; exact q.oth (mj_el_nr hh.1)))
/-! The same for whole runs. -/
theorem jNr.prim {r3 : Nat} {st st' : List Value} {h h' : mj_H} (q : jNr h) (hs : mj_prim r3 st h = some (st', h')) : jNr h' := by
  unfold mj_prim at hs
  repeat' split at hs
  all_goals (try (cases hs; done))
  all_goals (try (cases hs; exact q))
  rename_i t0 n0 f h0 _ t1 n1 g h1 hc
  cases hs
  refine q.set (fun n2 f2 e j k => ?_)
  cases e
  have e0 := hc.2.1
  subst e0
  unfold va_cpy
  split
  · exact q _ _ _ h0 _ k
  · exact q _ _ _ h1 _ k
theorem jNr.loop {call : Nat → List Value → mj_H → Option mj_R} (hcall : ∀ j as h r, call j as h = some r → jNr h → jNr r.2) {M : mj_M} : ∀ {F pc : Nat} {loc : mj_L} {st : List Value} {h : mj_H} {r : mj_R}, mj_loop call M F pc loc st h = some r → jNr h → jNr r.2
  | 0, _, _, _, _, _, hs, _ => by cases hs
  | F + 1, pc, loc, st, h, r, hs, q => by
    unfold mj_loop at hs
    cases hcode : M.2.2.2.2.1 pc with
    | none => rw [hcode] at hs; cases hs
    | some I =>
      obtain ⟨ins, r1, r2, r3, r4, r5⟩ := I
      rw [hcode] at hs
      simp only at hs
      split at hs
      · split at hs
        · rename_i h1
          exact jNr.loop hcall hs (q.step h1)
        · cases hs
      · split at hs
        · cases hs
          exact q
        · cases hs
      · split at hs
        · cases hs
          exact q.newo
        · cases hs
      · split at hs
        · split at hs
          · rename_i h1
            exact jNr.loop hcall hs (hcall _ _ _ _ h1 q)
          · rename_i h1
            split at hs
            · cases hs
              exact hcall _ _ _ _ h1 q
            · split at hs
              · split at hs
                · exact jNr.loop hcall hs (hcall _ _ _ _ h1 q)
                · cases hs
              · cases hs
          · cases hs
        · cases hs
      · split at hs
        · rename_i h1
          exact jNr.loop hcall hs (q.prim h1)
        · cases hs
theorem jNr.run (P : List mj_M) (F : Nat) : ∀ (D j : Nat) (as : List Value) (h : mj_H) (r : mj_R), mj_run P F D j as h = some r → jNr h → jNr r.2
  | 0, _, _, _, _, hs, _ => by cases hs
  | D + 1, j, as, h, r, hs, q => by
    simp only [mj_run] at hs
    split at hs
    · cases hs
    · split at hs
      · exact jNr.loop (fun j as h r => jNr.run P F D j as h r) hs q
      · cases hs
theorem mj_Ok.nr {D j : Nat} {as : List Value} {h : mj_H} {Q : mj_R → Prop} (c : mj_Ok D j as h Q) (q : jNr h) : mj_Ok D j as h (fun r => Q r ∧ jNr r.2) := by
  obtain ⟨F, r, h1, h2⟩ := c
  exact ⟨F, r, h1, h2, jNr.run _ F D j as h r h1 q⟩
/-! The reference in the law's heap: its eight cells from place m on. -/
theorem mj_rE_nr (ρ : Nat → Nat) {t n : Nat} {f : Nat → Value} (q : ∀ (i : Nat) (k : Addr), f i ≠ Value.ref k) : mj_rE ρ (.inl (t, n, f)) = .inl (t, n, f) := by
  have e : (fun j => mj_rn ρ (f j)) = f := funext fun j => by
    cases c : f j with
    | ref k => exact absurd c (q j k)
    | _ => rfl
  show Sum.inl (t, n, fun j => mj_rn ρ (f j)) = _
  rw [e]
/-- what the cells hold are addresses below 8 -/
def jS8 (hr : mj_H) : Prop := hr.length = 8 ∧ ∀ (i : Nat) (e : mj_E), hr[i]? = some e → ∀ ρ σ : Nat → Nat, (∀ k, k < 8 → ρ k = σ k) → mj_rE ρ e = mj_rE σ e
theorem jI_s8 {tm er : Int} {T : Nat → Int} {hr : mj_H} (hI : jI tm er T hr) (q : jNr hr) : jS8 hr := by
  obtain ⟨S, N, B, X, V, hs, K⟩ := hI
  have hl : hr.length = 8 := jS_len (rG S N B T X) hs
  have hz : ∀ p, (p = 3 ∨ p = 4 ∨ p = 5) → ∃ (n : Nat) (f : Nat → Value), hr[p]? = some (Sum.inl (0, n, f)) := by
    obtain ⟨bg, ov, db, _, rfl⟩ := hs
    intro p hp
    rcases hp with c | c | c
    · subst c; exact ⟨_, _, rfl⟩
    · subst c; exact ⟨_, _, rfl⟩
    · subst c; exact ⟨_, _, rfl⟩
  refine ⟨hl, fun i e hi ρ σ hρ => ?_⟩
  have hi8 : i < 8 := by
    have := (List.getElem?_eq_some_iff.mp hi).1
    omega
  have hL : ∀ (g : Nat → Int64) (n : Nat), mj_rE ρ (.inl (1, n, fun j => .long (g j))) = mj_rE σ (.inl (1, n, fun j => .long (g j))) := fun g n => by
    rw [mj_rE_nr ρ (fun _ _ c => Value.noConfusion c), mj_rE_nr σ (fun _ _ c => Value.noConfusion c)]
  have h0 : ∀ {n : Nat} {f : Nat → Value}, hr[i]? = some (Sum.inl (0, n, f)) → mj_rE ρ e = mj_rE σ e := fun {n f} h => by
    rw [hi] at h
    cases h
    rw [mj_rE_nr ρ (q i n f hi), mj_rE_nr σ (q i n f hi)]
  have hc : i = 0 ∨ i = 1 ∨ i = 2 ∨ (i = 3 ∨ i = 4 ∨ i = 5) ∨ i = 6 ∨ i = 7 := by omega
  rcases hc with c | c | c | c | c | c
  · subst c
    rw [rS_f hs] at hi
    cases hi
    simp only [mj_rE, rF, List.map, mj_rn, hρ 1 (by decide), hρ 2 (by decide), hρ 3 (by decide), hρ 4 (by decide), hρ 5 (by decide), hρ 6 (by decide), hρ 7 (by decide)]
  · subst c
    rw [rS_N hs] at hi
    cases hi
    exact hL _ _
  · subst c
    rw [rS_B hs] at hi
    cases hi
    exact hL _ _
  · obtain ⟨n, f, h⟩ := hz i c
    exact h0 h
  · subst c
    exact h0 (rS_T hs)
  · subst c
    exact h0 (rS_X hs)
def jEm (m : Nat) (hr h : mj_H) : Prop := jS8 hr ∧ jNr hr ∧ m + 8 ≤ h.length ∧ ∀ (i : Nat) (e : mj_E), hr[i]? = some e → h[m + i]? = some (mj_rE (fun k => m + k) e)
def jro (m N k : Nat) : Nat := if k < 8 then m + k else N + (k - 8)
theorem jEm.run {m D j : Nat} {as : List Value} {hr h : mj_H} {Q : mj_R → Prop} (E : jEm m hr h) (c : mj_Ok D j as hr Q) (hQ : ∀ r, Q r → jNr r.2 → jS8 r.2) : mj_Ok D j (as.map (mj_rn (jro m h.length))) h (fun r => ∃ r0 hr', Q (r0, hr') ∧ r.1 = mj_rR (jro m h.length) r0 ∧ jEm m hr' r.2 ∧ r.2.length = h.length ∧ ∀ a : Nat, a < h.length → (a < m ∨ m + 8 ≤ a) → r.2[a]? = h[a]?) := by
  obtain ⟨e1, e2, e3, e4⟩ := E
  obtain ⟨F, r, h1, h2, h3⟩ := c.nr e2
  have hr8 : ∀ k, k < 8 → jro m h.length k = m + k := fun k hk => if_pos hk
  have hE : ∀ {hr' : mj_H}, jS8 hr' → ∀ (i : Nat) (e : mj_E), hr'[i]? = some e → mj_rE (jro m h.length) e = mj_rE (fun k => m + k) e := fun s i e hi => s.2 i e hi _ _ hr8
  have he : mj_em (jro m h.length) 8 h.length hr h := by
    refine ⟨by rw [e1.1]; exact Nat.le_refl _, by rw [e1.1]; omega, fun k e hk => ?_⟩
    have hk8 : k < 8 := by
      have := (List.getElem?_eq_some_iff.mp hk).1
      rw [e1.1] at this
      exact this
    rw [hr8 k hk8, hE e1 k e hk]
    exact e4 k e hk
  obtain ⟨h', g1, g2, g3⟩ := mj_ren_run (ρ := jro m h.length) (n := 8) (m := h.length) (fun k hk => by unfold jro; rw [if_neg (by omega)]; omega) (fun i j hij => by
    unfold jro at hij
    split at hij <;> split at hij <;> omega) mj_P F D j as hr h r h1 he
  have s8 := hQ r h2 h3
  have hlen : h'.length = h.length := by have := g2.2.1; rw [s8.1] at this; omega
  refine ⟨F, _, g1, r.1, r.2, h2, rfl, ⟨s8, h3, by rw [hlen]; exact e3, fun i e hi => ?_⟩, hlen, fun a ha ha2 => g3 a ha (fun k hk hka => ?_)⟩
  · have hi8 : i < 8 := by
      have := (List.getElem?_eq_some_iff.mp hi).1
      rw [s8.1] at this
      exact this
    have := g2.2.2 i e hi
    rw [hr8 i hi8, hE s8 i e hi] at this
    exact this
  · rw [hr8 k hk] at hka
    omega
/-! What holds in the law's heap between two calls. -/
section JLI
variable {K L : Nat → Nat} {R : Nat → Nat → Nat} {e0 : mj_E} {q m n : Nat} {tm er : Int} {T : Nat → Int} {h h' hr : mj_H}
/-- where the reference lies: not among the class's cells, nor where answers are put -/
def jPl (K : Nat → Nat) (q m : Nat) : Prop := (∀ i, i < 8 → K (m + i) = 0 ∧ m + i < q) ∧ (K 0 = 0 ∧ 0 ≠ q ∧ 0 < m)
theorem jEm.frame (E : jEm m hr h) (hm : jPl K q m) (f : jLf K q h h') (hl : h.length ≤ h'.length) : jEm m hr h' := by
  obtain ⟨e1, e2, e3, e4⟩ := E
  refine ⟨e1, e2, by omega, fun i e hi => ?_⟩
  have hi8 : i < 8 := by
    have := (List.getElem?_eq_some_iff.mp hi).1
    rw [e1.1] at this
    exact this
  rw [f (m + i) (hm.1 i hi8).1 (Nat.ne_of_lt (hm.1 i hi8).2) (by omega)]
  exact e4 i e hi
theorem jLw.frame (w : jLw K L R q n tm h) (hm : jPl K q m) (hlen : h'.length = h.length) (hf : ∀ a : Nat, a < h.length → (a < m ∨ m + 8 ≤ a) → h'[a]? = h[a]?) : jLw K L R q n tm h' := by
  have hout : ∀ a : Nat, K a ≠ 0 ∨ a = q → (a < m ∨ m + 8 ≤ a) := fun a ha => by
    rcases Nat.lt_or_ge a m with c | c
    · exact Or.inl c
    · rcases Nat.lt_or_ge a (m + 8) with d | d
      · have := hm.1 (a - m) (by omega)
        rw [show m + (a - m) = a by omega] at this
        rcases ha with ha | ha
        · exact absurd this.1 ha
        · exact absurd ha (Nat.ne_of_lt this.2)
      · exact Or.inr d
  obtain ⟨o, kq, f, hq⟩ := w
  have hql := (List.getElem?_eq_some_iff.mp hq).1
  refine ⟨?_, ⟨kq.1, fun a ha hl => by rw [hf a (by omega) (Or.inr (by have := (hm.1 7 (by decide)).2; omega))]; exact kq.2 a ha (by omega)⟩, f, by rw [hf q hql (hout q (Or.inr rfl))]; exact hq⟩
  have := o.keep (h' := h') (fun a ha => by
    obtain ⟨e, h1, _⟩ := o.2.2.2 a ha
    exact hf a (List.getElem?_eq_some_iff.mp h1).1 (hout a (Or.inl ha)))
  rw [hlen, o.1] at this
  exact this
/-- both sides, with the same length of the text -/
def jLi (K L : Nat → Nat) (R : Nat → Nat → Nat) (e0 : mj_E) (q m n : Nat) (tm er : Int) (T : Nat → Int) (h : mj_H) : Prop := jLw K L R q n tm h ∧ h[0]? = some e0 ∧ ∃ hr, jEm m hr h ∧ jI tm er T hr
/-- the class's text may have got another length -/
def jLc (K L : Nat → Nat) (R : Nat → Nat → Nat) (e0 : mj_E) (q m n : Nat) (tc tm er : Int) (T : Nat → Int) (h : mj_H) : Prop := jLw K L R q n tc h ∧ h[0]? = some e0 ∧ ∃ hr, jEm m hr h ∧ jI tm er T hr
theorem jLi.cls {n' : Nat} {tc : Int} (I : jLi K L R e0 q m n tm er T h) (hm : jPl K q m) (w : jLw K L R q n' tc h') (hn : n ≤ n') (f : jLf K q h h') : jLc K L R e0 q m n' tc tm er T h' := by
  obtain ⟨w0, s0, hr, E, hI⟩ := I
  exact ⟨w, by rw [f 0 hm.2.1 hm.2.2.1 (List.getElem?_eq_some_iff.mp s0).1]; exact s0, hr, E.frame hm f (by rw [w0.1.1, w.1.1]; exact hn), hI⟩
/-- a call of the reference, in the law's heap -/
theorem jLc.call {D j : Nat} {as as2 : List Value} {tc : Int} (I : jLc K L R e0 q m n tc tm er T h) (hm : jPl K q m) {Q : mj_R → Prop} (c : ∀ hr, jI tm er T hr → mj_Ok D j as hr Q) (hQ : ∀ r, Q r → ∃ tm' er' T', jI tm' er' T' r.2) (has : ∀ N, as.map (mj_rn (jro m N)) = as2) : mj_Ok D j as2 h (fun r => ∃ r0 hr', Q (r0, hr') ∧ r.1 = mj_rR (jro m h.length) r0 ∧ jLw K L R q n tc r.2 ∧ r.2[0]? = some e0 ∧ jEm m hr' r.2) := by
  obtain ⟨w, s0, hr, E, hI⟩ := I
  have := E.run (c hr hI) (fun r h2 h3 => by
    obtain ⟨_, _, _, hi⟩ := hQ r h2
    exact jI_s8 hi h3)
  rw [has] at this
  exact this.to (fun r ⟨r0, hr', a, b, d, e, f⟩ => ⟨r0, hr', a, b, w.frame hm e f, by rw [f 0 (List.getElem?_eq_some_iff.mp s0).1 (Or.inl hm.2.2.2)]; exact s0, d⟩)
/-- a call of the reference that answers an int -/
theorem jLc.callI {D j : Nat} {as as2 : List Value} {tc tm' er' : Int} {T' : Nat → Int} (I : jLc K L R e0 q m n tc tm er T h) (hm : jPl K q m) (c : ∀ hr, jI tm er T hr → mj_Ok D j as hr (rI tm' er' T')) (has : ∀ N, as.map (mj_rn (jro m N)) = as2) : mj_Ok D j as2 h (fun r => ∃ z : Int, r.1 = .inl (some (.int (jn z))) ∧ jLc K L R e0 q m n tc tm' er' T' r.2) := by
  refine (I.call hm c (fun r hr => ?_) has).to (fun r ⟨r0, hr', a, b, d, s0, e⟩ => ?_)
  · obtain ⟨z, h2, _, rfl, k⟩ := hr
    exact ⟨_, _, _, k⟩
  · obtain ⟨z, h2, _, e2, k⟩ := a
    cases e2
    exact ⟨z, b, d, s0, hr', e, k⟩
theorem jLc.callJ {D j : Nat} {as as2 : List Value} {tc tm' er' : Int} {T' : Nat → Int} (I : jLc K L R e0 q m n tc tm er T h) (hm : jPl K q m) (c : ∀ hr, jI tm er T hr → mj_Ok D j as hr (rJ tm' er' T')) (has : ∀ N, as.map (mj_rn (jro m N)) = as2) : mj_Ok D j as2 h (fun r => ∃ z : Int, r.1 = .inl (some (.long (jl z))) ∧ jLc K L R e0 q m n tc tm' er' T' r.2) := by
  refine (I.call hm c (fun r hr => ?_) has).to (fun r ⟨r0, hr', a, b, d, s0, e⟩ => ?_)
  · obtain ⟨z, h2, rfl, k⟩ := hr
    exact ⟨_, _, _, k⟩
  · obtain ⟨z, h2, e2, k⟩ := a
    cases e2
    exact ⟨z, b, d, s0, hr', e, k⟩
theorem jLc.obj {tc : Int} (I : jLc K L R e0 q m n tc tm er T h) : ∃ fs, h[m]? = some (.inr (10, fs)) := by
  obtain ⟨_, _, hr, E, S, N, B, X, V, hs, _⟩ := I
  exact ⟨_, E.2.2.2 0 _ (rS_f hs)⟩
theorem jr_of' (w : Int32) : -2147483648 ≤ w.toInt ∧ w.toInt ≤ 2147483647 := ⟨(jr_of w).1, by have := (jr_of w).2; omega⟩
end JLI
section JLR
variable {D pc : Nat} {M : mj_M} {loc : mj_L} {st : List Value} {h : mj_H} {Q : mj_R → Prop}
theorem jT.asJ {w : Int32} (k : mj_T D M pc loc (.int (jn w.toInt) :: st) h Q) : mj_T D M pc loc (.int w :: st) h Q := by rwa [jn_of] at k
/-- an int of the script -/
theorem jL.arg {Lx : Nat} {xs : Nat → Int32} {i k : Int} {l1 l2 l3 : Option Value} {lr : mj_L} {a1 a2 a3 a4 a5 b1 b2 b3 b4 b5 c1 c2 c3 c4 c5 d1 d2 d3 d4 d5 e1 e2 e3 e4 e5 : Nat} (hs : h[0]? = some (.inl (100, Lx, fun j => .int (xs j)))) (hi : 0 ≤ i ∧ i + 6 ≤ Lx) (hL : Lx ≤ 3072) (hk : 0 ≤ k ∧ k ≤ 5) (g1 : M.2.2.2.2.1 pc = some (.aload_n 0, a1, a2, a3, a4, a5)) (g2 : M.2.2.2.2.1 (pc + 1) = some (.iload 4, b1, b2, b3, b4, b5)) (g3 : M.2.2.2.2.1 (pc + 1 + 2) = some (.iconst k, c1, c2, c3, c4, c5)) (g4 : M.2.2.2.2.1 (pc + 1 + 2 + 1) = some (.iadd, d1, d2, d3, d4, d5)) (g5 : M.2.2.2.2.1 (pc + 1 + 2 + 1 + 1) = some (.iaload, e1, e2, e3, e4, e5)) (q : mj_T D M (pc + 1 + 2 + 1 + 1 + 1) (some (.ref 0) :: l1 :: l2 :: l3 :: some (.int (jn i)) :: lr) (.int (xs (i + k).toNat) :: st) h Q) : mj_T D M pc (some (.ref 0) :: l1 :: l2 :: l3 :: some (.int (jn i)) :: lr) st h Q := by
  refine mj_T.pl g1 rfl rfl rfl (mj_T.pl g2 rfl rfl rfl (mj_T.pl g3 rfl rfl rfl (mj_T.iadd g4 (mj_T.step g5 rfl ?_ q))))
  have hr : jr (i + k) := ⟨by omega, by omega⟩
  have h1 : mj_in (jn (i + k)) Lx = true := by rw [jn_in hr]; exact decide_eq_true ⟨by omega, by omega⟩
  simp only [mj_step, hs, h1, jn_nat (show 0 ≤ i + k by omega) hr, or_true, true_and, if_true]
end JLR
/-! The law's table in pieces. -/
def mj_lks : List (List (Option mj_I)) → Nat → Option mj_I
  | [], _ => none
  | c :: cs, pc => if pc < 120 then mj_look c pc else mj_lks cs (pc - 120)
theorem mj_look_app {c l : List (Option mj_I)} (hc : c.length = 120) (pc : Nat) : mj_look (c ++ l) pc = if pc < 120 then mj_look c pc else mj_look l (pc - 120) := by
  by_cases h : pc < 120
  · rw [if_pos h]
    unfold mj_look
    rw [List.getElem?_append_left (by omega)]
  · rw [if_neg h]
    unfold mj_look
    rw [List.getElem?_append_right (by omega), hc]
theorem mj_lks_app {c l : List (Option mj_I)} {cs : List (List (Option mj_I))} (hc : c.length = 120) (k : ∀ pc, mj_look l pc = mj_lks cs pc) (pc : Nat) : mj_look (c ++ l) pc = mj_lks (c :: cs) pc := by
  rw [mj_look_app hc, k]
  rfl
theorem mj_lks_one {c : List (Option mj_I)} (hc : c.length ≤ 120) (pc : Nat) : mj_look c pc = mj_lks [c] pc := by
  show _ = if pc < 120 then mj_look c pc else none
  by_cases h : pc < 120
  · rw [if_pos h]
  · rw [if_neg h]
    unfold mj_look
    rw [List.getElem?_eq_none (by omega)]
theorem mj_ln_0 : mj_lL_0.length = 120 := by decide +kernel
theorem mj_ln_1 : mj_lL_1.length = 120 := by decide +kernel
theorem mj_ln_2 : mj_lL_2.length = 120 := by decide +kernel
theorem mj_ln_3 : mj_lL_3.length = 120 := by decide +kernel
theorem mj_ln_4 : mj_lL_4.length = 120 := by decide +kernel
theorem mj_ln_5 : mj_lL_5.length = 120 := by decide +kernel
theorem mj_ln_6 : mj_lL_6.length = 120 := by decide +kernel
theorem mj_ln_7 : mj_lL_7.length = 120 := by decide +kernel
theorem mj_ln_8 : mj_lL_8.length = 120 := by decide +kernel
theorem mj_ln_9 : mj_lL_9.length = 120 := by decide +kernel
theorem mj_ln_10 : mj_lL_10.length = 120 := by decide +kernel
theorem mj_ln_11 : mj_lL_11.length = 120 := by decide +kernel
theorem mj_ln_12 : mj_lL_12.length = 120 := by decide +kernel
theorem mj_ln_13 : mj_lL_13.length = 120 := by decide +kernel
theorem mj_ln_14 : mj_lL_14.length = 120 := by decide +kernel
theorem mj_ln_15 : mj_lL_15.length = 120 := by decide +kernel
theorem mj_ln_16 : mj_lL_16.length = 120 := by decide +kernel
theorem mj_ln_17 : mj_lL_17.length ≤ 120 := by decide +kernel
def mj_chs : List (List (Option mj_I)) := [mj_lL_0, mj_lL_1, mj_lL_2, mj_lL_3, mj_lL_4, mj_lL_5, mj_lL_6, mj_lL_7, mj_lL_8, mj_lL_9, mj_lL_10, mj_lL_11, mj_lL_12, mj_lL_13, mj_lL_14, mj_lL_15, mj_lL_16, mj_lL_17]
theorem mj_lk_eq : mj_look mj_lL = mj_lks mj_chs := funext (fun pc => (mj_lks_app mj_ln_0 (mj_lks_app mj_ln_1 (mj_lks_app mj_ln_2 (mj_lks_app mj_ln_3 (mj_lks_app mj_ln_4 (mj_lks_app mj_ln_5 (mj_lks_app mj_ln_6 (mj_lks_app mj_ln_7 (mj_lks_app mj_ln_8 (mj_lks_app mj_ln_9 (mj_lks_app mj_ln_10 (mj_lks_app mj_ln_11 (mj_lks_app mj_ln_12 (mj_lks_app mj_ln_13 (mj_lks_app mj_ln_14 (mj_lks_app mj_ln_15 (mj_lks_app mj_ln_16 (mj_lks_one mj_ln_17)))))))))))))))))) pc)
def mj_mK : mj_M := (mj_mL.1, mj_mL.2.1, mj_mL.2.2.1, mj_mL.2.2.2.1, mj_lks mj_chs, mj_mL.2.2.2.2.2)
theorem mj_mK_eq : mj_mL = mj_mK := by
  unfold mj_mK
  rw [← mj_lk_eq]
  rfl
/-! Constructors: an object under way, its cells behind it of their kinds, one array perhaps not yet full. -/
/-- a is under way with those fields; what is new is of its kind, but for the open cells; all else is as before -/
def jCS (K L : Nat → Nat) (R : Nat → Nat → Nat) (tm : Int) (h0 : mj_H) (a c : Nat) (fs : List Value) (ob : List (Nat × mj_E)) (n : Nat) (h : mj_H) : Prop := h.length = n ∧ a < h0.length ∧ h0.length ≤ n ∧ (∀ x, x < h0.length → x ≠ a → h[x]? = h0[x]?) ∧ h[a]? = some (.inr (c, fs)) ∧ (∀ p ∈ ob, h0.length ≤ p.1 ∧ p.1 < n ∧ h[p.1]? = some p.2) ∧ ∀ x, h0.length ≤ x → x < n → (∀ p ∈ ob, p.1 ≠ x) → ∃ e, h[x]? = some e ∧ jCf K L R tm (K x) x e
/-- it is done -/
def jDn (K L : Nat → Nat) (R : Nat → Nat → Nat) (tm : Int) (h0 : mj_H) (a n : Nat) (h : mj_H) : Prop := h.length = n ∧ h0.length ≤ n ∧ (∀ x, x < h0.length → x ≠ a → h[x]? = h0[x]?) ∧ ∀ x, (x = a ∨ h0.length ≤ x) → x < n → ∃ e, h[x]? = some e ∧ jCf K L R tm (K x) x e
def jDr (K L : Nat → Nat) (R : Nat → Nat → Nat) (tm : Int) (h0 : mj_H) (a n : Nat) (r : mj_R) : Prop := r.1 = .inl none ∧ jDn K L R tm h0 a n r.2
section JCSS
variable {D pc : Nat} {M : mj_M} {loc : mj_L} {st : List Value} {h h' h0 : mj_H} {Q : mj_R → Prop} {r1 r2 r3 r4 r5 : Nat}
variable {K L : Nat → Nat} {R : Nat → Nat → Nat} {tm : Int} {a c n N : Nat} {fs : List Value} {ob : List (Nat × mj_E)}
theorem jCS.beg (ha : h0[a]? = some (.inr (c, fs))) (hn : h0.length = n) : jCS K L R tm h0 a c fs [] n h0 := ⟨hn, (List.getElem?_eq_some_iff.mp ha).1, by omega, fun _ _ _ => rfl, ha, fun p hp => (List.not_mem_nil hp).elim, fun x h1 h2 => absurd h1 (by omega)⟩
theorem jCS.put {f i : Nat} {v : Value} (s : jCS K L R tm h0 a c fs ob n h) (hc : M.2.2.2.2.1 pc = some (.putfield f, c, i, r3, r4, r5)) (hi : i < fs.length) (hv : mj_fit r3 v = true) (k : ∀ h', jCS K L R tm h0 a c (fs.set i v) ob n h' → mj_T D M (pc + 3) loc st h' Q) : mj_T D M pc loc (v :: .ref a :: st) h Q := by
  obtain ⟨s1, s2, s3, s4, s5, s6, s7⟩ := s
  refine mj_T.pfl hc s5 hi hv (k _ ⟨by rw [List.length_set]; exact s1, s2, s3, fun x hx hne => ?_, ?_, fun p hp => ?_, fun x h1 h2 h3 => ?_⟩)
  · rw [List.getElem?_set_ne (Ne.symm hne)]
    exact s4 x hx hne
  · rw [List.getElem?_set_self (List.getElem?_eq_some_iff.mp s5).1]
  · obtain ⟨p1, p2, p3⟩ := s6 p hp
    exact ⟨p1, p2, by rw [List.getElem?_set_ne (by omega)]; exact p3⟩
  · obtain ⟨e, e1, e2⟩ := s7 x h1 h2 h3
    exact ⟨e, by rw [List.getElem?_set_ne (by omega)]; exact e1, e2⟩
theorem jCS.get {f i : Nat} {v : Value} (s : jCS K L R tm h0 a c fs ob n h) (hc : M.2.2.2.2.1 pc = some (.getfield f, c, i, r3, r4, r5)) (hf : fs[i]? = some v) (k : mj_T D M (pc + 3) loc (v :: st) h Q) : mj_T D M pc loc (.ref a :: st) h Q := mj_T.gfl hc s.2.2.2.2.1 hf k
theorem jCS.getA {f i : Nat} {v : Value} {e : mj_E} (s : jCS K L R tm h0 a c fs ob n h) (hc : M.2.2.2.2.1 pc = some (.getfield f, c, i, r3, r4, r5)) (hf : fs[i]? = some v) (k : mj_T D M (pc + 3) loc (v :: st) (h ++ [e]) Q) : mj_T D M pc loc (.ref a :: st) (h ++ [e]) Q := mj_T.gfl hc (by rw [List.getElem?_append_left (List.getElem?_eq_some_iff.mp s.2.2.2.2.1).1]; exact s.2.2.2.2.1) hf k
theorem jCS.apps (s : jCS K L R tm h0 a c fs ob n h) (es : List mj_E) (t : ∀ (i : Nat) (e : mj_E), es[i]? = some e → jCf K L R tm (K (n + i)) (n + i) e) : jCS K L R tm h0 a c fs ob (n + es.length) (h ++ es) := by
  obtain ⟨s1, s2, s3, s4, s5, s6, s7⟩ := s
  refine ⟨by rw [List.length_append, s1], s2, by omega, fun x hx hne => ?_, ?_, fun p hp => ?_, fun x h1 h2 h3 => ?_⟩
  · rw [List.getElem?_append_left (by omega)]
    exact s4 x hx hne
  · rw [List.getElem?_append_left (by omega)]
    exact s5
  · obtain ⟨p1, p2, p3⟩ := s6 p hp
    exact ⟨p1, by omega, by rw [List.getElem?_append_left (by omega)]; exact p3⟩
  · by_cases q : x < n
    · obtain ⟨e, e1, e2⟩ := s7 x h1 q h3
      exact ⟨e, by rw [List.getElem?_append_left (by omega)]; exact e1, e2⟩
    · have hl : x - n < es.length := by omega
      have he : es[x - n]? = some es[x - n] := List.getElem?_eq_getElem hl
      refine ⟨es[x - n], by rw [List.getElem?_append_right (by omega), s1]; exact he, ?_⟩
      have := t _ _ he
      rw [show n + (x - n) = x by omega] at this
      exact this
theorem jCS.app (s : jCS K L R tm h0 a c fs ob n h) (e : mj_E) (t : jCf K L R tm (K n) n e) : jCS K L R tm h0 a c fs ob (n + 1) (h ++ [e]) := s.apps [e] (fun i e' hi => by
  match i, hi with
  | 0, hi => cases hi; exact t
  | i + 1, hi => simp at hi)
theorem jCS.opn (s : jCS K L R tm h0 a c fs [] n h) (e : mj_E) : jCS K L R tm h0 a c fs [(n, e)] (n + 1) (h ++ [e]) := by
  obtain ⟨s1, s2, s3, s4, s5, s6, s7⟩ := s
  refine ⟨by rw [List.length_append, s1]; rfl, s2, by omega, fun x hx hne => ?_, ?_, fun p hp => ?_, fun x h1 h2 h3 => ?_⟩
  · rw [List.getElem?_append_left (by omega)]
    exact s4 x hx hne
  · rw [List.getElem?_append_left (by omega)]
    exact s5
  · have hp := List.mem_singleton.mp hp
    subst hp
    refine ⟨s3, Nat.lt_succ_self _, ?_⟩
    show (h ++ [e])[n]? = some e
    rw [List.getElem?_append_right (by omega), s1, Nat.sub_self]
    rfl
  · have hne : n ≠ x := h3 (n, e) List.mem_cons_self
    obtain ⟨e, e1, e2⟩ := s7 x h1 (by omega) (fun p hp => (List.not_mem_nil hp).elim)
    exact ⟨e, by rw [List.getElem?_append_left (by omega)]; exact e1, e2⟩
theorem jCS.cls {b : Nat} {e : mj_E} (s : jCS K L R tm h0 a c fs [(b, e)] n h) (t : jCf K L R tm (K b) b e) : jCS K L R tm h0 a c fs [] n h := by
  obtain ⟨s1, s2, s3, s4, s5, s6, s7⟩ := s
  refine ⟨s1, s2, s3, s4, s5, fun p hp => (List.not_mem_nil hp).elim, fun x h1 h2 _ => ?_⟩
  by_cases q : b = x
  · subst q
    exact ⟨e, (s6 (b, e) List.mem_cons_self).2.2, t⟩
  · exact s7 x h1 h2 (fun p hp => by rw [List.mem_singleton.mp hp]; exact q)
theorem jCS.done (s : jCS K L R tm h0 a c fs [] n h) (t : jCf K L R tm (K a) a (.inr (c, fs))) : jDn K L R tm h0 a n h := by
  obtain ⟨s1, s2, s3, s4, s5, s6, s7⟩ := s
  refine ⟨s1, s3, s4, fun x h1 h2 => ?_⟩
  by_cases q : x = a
  · subst q
    exact ⟨_, s5, t⟩
  · exact s7 x (by omega) h2 (fun p hp => (List.not_mem_nil hp).elim)
/-- a call of a constructor over the newest cell -/
theorem jCS.after {e : mj_E} (s : jCS K L R tm h0 a c fs ob n h) (d : jDn K L R tm (h ++ [e]) n N h') : jCS K L R tm h0 a c fs ob N h' := by
  obtain ⟨s1, s2, s3, s4, s5, s6, s7⟩ := s
  obtain ⟨d1, d2, d3, d4⟩ := d
  have hl : (h ++ [e]).length = n + 1 := by rw [List.length_append, s1]; rfl
  have old : ∀ x, x < n → h'[x]? = h[x]? := fun x hx => by rw [d3 x (by omega) (by omega), List.getElem?_append_left (by omega)]
  refine ⟨d1, s2, by omega, fun x hx hne => ?_, ?_, fun p hp => ?_, fun x h1 h2 h3 => ?_⟩
  · rw [old x (by omega)]
    exact s4 x hx hne
  · rw [old a (by omega)]
    exact s5
  · obtain ⟨p1, p2, p3⟩ := s6 p hp
    exact ⟨p1, by omega, by rw [old _ p2]; exact p3⟩
  · by_cases q : x < n
    · rw [old x q]
      exact s7 x h1 q h3
    · exact d4 x (by omega) h2
theorem jCS.new {ix c2 r2 : Nat} (s : jCS K L R tm h0 a c fs ob n h) (hc : M.2.2.2.2.1 pc = some (.new ix, c2, r2, 0, r4, r5)) (k : mj_T D M (pc + 3) loc (.ref n :: st) (h ++ [.inr (c2, mj_new c2)]) Q) : mj_T D M pc loc st h Q :=
  mj_T.step hc rfl (by simp only [mj_step, s.1]) k
theorem jCS.call {ix j : Nat} {as : List Value} {e : mj_E} (s : jCS K L R tm h0 a c fs ob n h) (hc : M.2.2.2.2.1 pc = some (.invokespecial ix, j, r2, r3, r4, r5)) (hk : mj_kind (.invokespecial ix) r3 = 3) (hl : r2 ≤ st.length) (hcat : mj_cat (st.drop r2) ≤ 8) (hr : mj_recv (.invokespecial ix) r2 r5 st (h ++ [e]) = true) (has : (st.take r2).reverse = as) (hcall : (h ++ [e]).length = n + 1 → (h ++ [e])[n]? = some e → mj_Ok D j as (h ++ [e]) (jDr K L R tm (h ++ [e]) n N)) (hM : M.2.2.2.2.2.1 = []) (k : ∀ h', jCS K L R tm h0 a c fs ob N h' → mj_T D M (pc + 3) loc (st.drop r2) h' Q) : mj_T D M pc loc st (h ++ [e]) Q := by
  refine mj_T.call hc hk hl hcat hr has (hcall (by rw [List.length_append, s.1]; rfl) (by rw [List.getElem?_append_right (by rw [s.1]; exact Nat.le_refl _), s.1, Nat.sub_self]; rfl)) (fun v h' hq => ?_) (fun i h' hq => ?_)
  · obtain ⟨h1, h2⟩ := hq
    cases h1
    exact k h' (s.after h2)
  · obtain ⟨h1, _⟩ := hq
    cases h1
theorem jCf.num (k : Nat) (hk : k = 1 ∨ k = 2 ∨ k = 3) {b len : Nat} (ha : K b = k) (hl : L b = len) : jCf K L R tm (K b) b (.inl (jak k, len, fun _ => mj_df (jak k))) := by
  subst hl
  rw [ha]
  unfold jCf
  rw [if_pos (by omega)]
  refine ⟨_, rfl, fun i => ?_⟩
  rcases hk with hk | hk | hk
  · subst hk
    exact ⟨0, ⟨by decide, by decide⟩, rfl⟩
  · subst hk
    exact ⟨0, ⟨by decide, by decide⟩, rfl⟩
  · subst hk
    exact ⟨0, ⟨by decide, by decide⟩, rfl⟩
/-- a new array of numbers -/
theorem jCS.arr (kk : Nat) {x : Int} {t : ClassFile.ArrayType} (s : jCS K L R tm h0 a c fs ob n h) (hc : M.2.2.2.2.1 pc = some (.newarray t, r1, r2, r3, r4, r5)) (hkk : kk = 1 ∨ kk = 2 ∨ kk = 3) (hr : jak kk = r1) (hx : 0 ≤ x ∧ x ≤ 1000) (ka : K n = kk) (hl : (L n : Int) = x) (k : ∀ h', jCS K L R tm h0 a c fs ob (n + 1) h' → mj_T D M (pc + 2) loc (.ref n :: st) h' Q) : mj_T D M pc loc (.int (jn x) :: st) h Q := by
  subst hr
  have hj : jr x := ⟨by omega, by omega⟩
  have e1 : (jn x).toNatClampNeg = L n := by rw [jn_nat hx.1 hj]; omega
  have e2 : (0 : Int32) ≤ jn x := by rw [show (0 : Int32) = jn 0 from rfl, jn_le ⟨by decide, by decide⟩ hj]; exact hx.1
  have e3 : jak kk ≤ 2 := by rcases hkk with q | q | q <;> subst q <;> decide
  refine mj_T.step hc rfl (pc' := pc + 2) (loc' := loc) (st' := .ref n :: st) (h' := h ++ [.inl (jak kk, L n, fun _ => mj_df (jak kk))]) ?_ (k _ (s.app _ (jCf.num kk hkk ka rfl)))
  simp only [mj_step, e1, s.1]
  rw [if_pos ⟨e2, by omega, e3⟩]
/-- a new array of arrays of longs -/
theorem jCS.rows {x1 x2 : Nat} (N : Nat) (s : jCS K L R tm h0 a c fs ob n h) (hc : M.2.2.2.2.1 pc = some (.multianewarray x1 x2, r1, r2, r3, r4, r5)) (hN : N ≤ 1000) (ka : K n = 6) (hl : L n = N) (hrow : ∀ i, i < N → R n i = n + 1 + i ∧ K (n + 1 + i) = 2 ∧ L (n + 1 + i) = 13) (k : ∀ h', jCS K L R tm h0 a c fs ob (n + 1 + N) h' → mj_T D M (pc + 4) loc (.ref n :: st) h' Q) : mj_T D M pc loc (.int (jn 13) :: .int (jn (N : Int)) :: st) h Q := by
  subst hl
  have hj : jr (L n : Int) := ⟨by omega, by omega⟩
  have e1 : (jn (L n : Int)).toNatClampNeg = L n := by rw [jn_nat (by omega) hj]; rfl
  have e2 : (0 : Int32) ≤ jn (L n : Int) := by rw [show (0 : Int32) = jn 0 from rfl, jn_le ⟨by decide, by decide⟩ hj]; omega
  have e3 : (jn 13).toNatClampNeg = 13 := rfl
  have e4 : (0 : Int32) ≤ jn 13 := by decide
  refine mj_T.step hc rfl (pc' := pc + 4) (loc' := loc) (st' := .ref n :: st) (h' := h ++ (.inl (6, L n, fun i => if i < L n then .ref (n + 1 + i) else .null) :: mj_rows (L n) 13 0)) ?_ (k _ ?_)
  · simp only [mj_step, e1, e3, s.1]
    rw [if_pos ⟨e2, e4, by omega, by omega⟩]
  · have := s.apps (.inl (6, L n, fun i => if i < L n then .ref (n + 1 + i) else .null) :: mj_rows (L n) 13 0) (fun i e he => ?_)
    · rw [show n + (Sum.inl (6, L n, fun i => if i < L n then Value.ref (n + 1 + i) else .null) :: mj_rows (L n) 13 0 : List mj_E).length = n + 1 + L n by simp [mj_rows]; omega] at this
      exact this
    · match i, he with
      | 0, he =>
        cases he
        show jCf K L R tm (K n) n _
        rw [ka]
        unfold jCf
        rw [if_pos (by decide)]
        refine ⟨_, rfl, fun j => ?_⟩
        rw [if_neg (by decide), if_neg (by decide)]
        intro hj
        rw [if_pos hj, (hrow j hj).1]
      | i + 1, he =>
        rw [List.getElem?_cons_succ] at he
        have hi : i < L n := by
          have := (List.getElem?_eq_some_iff.mp he).1
          simpa [mj_rows] using this
        have he2 : (mj_rows (L n) 13 0)[i]? = some (.inl (1, 13, fun _ => .long 0)) := by
          unfold mj_rows
          rw [List.getElem?_map, List.getElem?_range hi]
          rfl
        rw [he2] at he
        cases he
        have q := hrow i hi
        rw [show n + (i + 1) = n + 1 + i by omega]
        exact jCf.num 2 (Or.inr (Or.inl rfl)) q.2.1 q.2.2
/-- a new array for objects -/
theorem jCS.arrO {ix : Nat} (N : Nat) (s : jCS K L R tm h0 a c fs [] n h) (hc : M.2.2.2.2.1 pc = some (.anewarray ix, r1, r2, r3, r4, r5)) (hN : N ≤ 1000) (k : ∀ h', jCS K L R tm h0 a c fs [(n, .inl (r1, N, fun _ => .null))] (n + 1) h' → mj_T D M (pc + 3) loc (.ref n :: st) h' Q) : mj_T D M pc loc (.int (jn (N : Int)) :: st) h Q := by
  have hj : jr (N : Int) := ⟨by omega, by omega⟩
  have e1 : (jn (N : Int)).toNatClampNeg = N := by rw [jn_nat (by omega) hj]; rfl
  have e2 : (0 : Int32) ≤ jn (N : Int) := by rw [show (0 : Int32) = jn 0 from rfl, jn_le ⟨by decide, by decide⟩ hj]; omega
  refine mj_T.step hc rfl (pc' := pc + 3) (loc' := loc) (st' := .ref n :: st) (h' := h ++ [.inl (r1, N, fun _ => .null)]) ?_ (k _ (s.opn _))
  simp only [mj_step, e1, s.1]
  rw [if_pos ⟨e2, by omega⟩]
/-- its length -/
theorem jCS.alen {b t N : Nat} {f : Nat → Value} (s : jCS K L R tm h0 a c fs [(b, .inl (t, N, f))] n h) (hc : M.2.2.2.2.1 pc = some (.arraylength, r1, r2, r3, r4, r5)) (k : mj_T D M (pc + 1) loc (.int (jn (N : Int)) :: st) h Q) : mj_T D M pc loc (.ref b :: st) h Q := mj_T.alen hc (s.2.2.2.2.2.1 (b, .inl (t, N, f)) List.mem_cons_self).2.2 k
/-- one of its places is filled -/
theorem jCS.aast {b t N i v kv : Nat} {f : Nat → Value} (s : jCS K L R tm h0 a c fs [(b, .inl (t, N, f))] n h) (hc : M.2.2.2.2.1 pc = some (.aastore, r1, r2, r3, r4, r5)) (hv : h0.length ≤ v ∧ v < n ∧ b ≠ v) (kv1 : K v = kv) (hk : 7 < kv) (hel : mj_el t = some (jkc kv)) (hi : i < N) (hN : N ≤ 1000) (k : ∀ h', jCS K L R tm h0 a c fs [(b, .inl (t, N, updV f i (.ref v)))] n h' → mj_T D M (pc + 1) loc st h' Q) : mj_T D M pc loc (.ref v :: .int (jn (i : Int)) :: .ref b :: st) h Q := by
  obtain ⟨s1, s2, s3, s4, s5, s6, s7⟩ := s
  obtain ⟨b1, b2, b3⟩ := s6 (b, .inl (t, N, f)) List.mem_cons_self
  have b1 : h0.length ≤ b := b1
  have b3 : h[b]? = some (.inl (t, N, f)) := b3
  obtain ⟨e, e1, e2⟩ := s7 v hv.1 hv.2.1 (fun p hp => by rw [List.mem_singleton.mp hp]; exact hv.2.2)
  rw [kv1] at e2
  unfold jCf at e2
  rw [if_neg (by omega)] at e2
  obtain ⟨gs, rfl, _⟩ := e2
  have hj : jr (i : Int) := ⟨by omega, by omega⟩
  have g1 : mj_in (jn (i : Int)) N = true := by rw [jn_in hj]; exact decide_eq_true ⟨by omega, by omega⟩
  have g2 : (jn (i : Int)).toNatClampNeg = i := by rw [jn_nat (by omega) hj]; rfl
  refine mj_T.step hc rfl (pc' := pc + 1) (loc' := loc) (st' := st) (h' := h.set b (.inl (t, N, updV f i (.ref v)))) ?_ (k _ ⟨by rw [List.length_set]; exact s1, s2, s3, fun x hx hne => ?_, ?_, fun p hp => ?_, fun x h1 h2 h3 => ?_⟩)
  · simp only [mj_step, b3, e1, g1, g2, hel, and_self, if_true]
  · rw [List.getElem?_set_ne (by omega)]
    exact s4 x hx hne
  · rw [List.getElem?_set_ne (by omega)]
    exact s5
  · have hp := List.mem_singleton.mp hp
    subst hp
    exact ⟨b1, b2, List.getElem?_set_self (List.getElem?_eq_some_iff.mp b3).1⟩
  · have hne : b ≠ x := h3 (b, _) List.mem_cons_self
    rw [List.getElem?_set_ne hne]
    exact s7 x h1 h2 (fun p hp => by rw [List.mem_singleton.mp hp]; exact hne)
/-- it is full -/
theorem jCS.full {b t k : Nat} {N : Nat} {f : Nat → Value} (s : jCS K L R tm h0 a c fs [(b, .inl (t, N, f))] n h) (kb : K b = k) (hk : 4 ≤ k ∧ k ≤ 7) (ht : jak k = t) (hl : L b = N) (hf : ∀ i, i < N → f i = .ref (R b i)) : jCS K L R tm h0 a c fs [] n h := by
  subst ht hl
  refine s.cls ?_
  rw [kb]
  unfold jCf
  rw [if_pos (by omega)]
  refine ⟨_, rfl, fun i => ?_⟩
  rw [if_neg (by omega), if_neg (by omega)]
  exact hf i
theorem jfv.ref {cd i p : Nat} (hc : 100 ≤ cd) (hp : R a i = p) : jfv K R tm cd a i (.ref p) := by
  subst hp
  unfold jfv
  rw [if_pos hc]
theorem jfv.txt {i b : Nat} (hb : K b = 17 ∨ K b = 27) : jfv K R tm 4 a i (.ref b) := ⟨b, hb, rfl⟩
theorem jfv.long {i : Nat} {x : Int} (hx : jR x) : jfv K R tm 1 a i (.long (jl x)) := ⟨x, hx, rfl⟩
theorem jCf.obj (k : Nat) (hk : 7 < k) (ka : K a = k) (hc : jkc k = c) (hl : fs.length = (jfs k).length) (hf : ∀ i cd, (jfs k)[i]? = some cd → ∃ v, fs[i]? = some v ∧ jfv K R tm cd a i v) : jCf K L R tm (K a) a (.inr (c, fs)) := by
  subst hc
  rw [ka]
  unfold jCf
  rw [if_neg (by omega)]
  exact ⟨fs, rfl, hl, hf⟩
end JCSS
