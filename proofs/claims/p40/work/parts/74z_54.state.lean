/-! The class between two calls. -/
/-- a bench as the reference has it: rows, points -/
def BN (X : Nat → Nat → Int) (o : Nat) (N : Nat → Int) : Prop := (∀ r, r < 6 → ∀ j, j < 13 → X (o + 2 + r) j = N (r * 13 + j)) ∧ X o 3 = N 78 ∧ (∀ k : Nat, (k : Int) < N 78 → X (o + 8) k = N (79 + k) ∧ X (o + 9) k = N (85 + k))
/-- the texts' lengths -/
def TL (X : Nat → Nat → Int) : Prop := (0 ≤ X 15 1 ∧ X 15 1 ≤ 340) ∧ (0 ≤ X 17 1 ∧ X 17 1 ≤ 340)
theorem TL.to {X X1 : Nat → Nat → Int} (t : TL X) (h : ∀ c, c = 15 ∨ c = 17 → X1 c = X c) : TL X1 := by
  unfold TL at t ⊢
  rw [h 15 (Or.inl rfl), h 17 (Or.inr rfl)]
  exact t
/-- the class's benches: now N, earlier H 0, H 1 .. (u of them) -/
def CR (X : Nat → Nat → Int) (N : Nat → Int) (u : Nat) (H : Nat → Nat → Int) : Prop := ∃ e : Nat, e < 8 ∧ X 1 3 = (e : Int) ∧ X 1 2 = (u : Int) ∧ BN X 2 N ∧ (∀ k : Nat, k < u → BN X (483 + 10 * ((e + 7 - k) % 8)) (H k)) ∧ TL X
/-- the benches and texts stay -/
def sBn (X X1 : Nat → Nat → Int) : Prop := X1 1 2 = X 1 2 ∧ X1 1 3 = X 1 3 ∧ ∀ c, (2 ≤ c ∧ c < 19) ∨ 483 ≤ c → X1 c = X c
def pushH (N : Nat → Int) (H : Nat → Nat → Int) : Nat → Nat → Int
  | 0 => N
  | k + 1 => H k
def upu (u : Nat) : Nat := if u < 8 then u + 1 else 8
def AS (N : Nat → Int) (u : Nat) (H : Nat → Nat → Int) : Prop := gN N ∧ u ≤ 8 ∧ ∀ k, k < u → gN (H k)
/-- the class between two calls -/
def cS (g : mj_H) (n : Nat) (N : Nat → Int) (u : Nat) (H : Nat → Nat → Int) (h : mj_H) : Prop := ∃ (V : Nat → Int) (X : Nat → Nat → Int), jM g n V X h ∧ by0 V ∧ DG X ∧ CR X N u H
/-- a register's polynomial -/
def rwN (N : Nat → Int) (a : Int) : pz_P := fun j => if j < 13 then N (a.toNat * 13 + j) else 0
theorem sBn.rf (X : Nat → Nat → Int) : sBn X X := ⟨rfl, rfl, fun _ _ => rfl⟩
theorem sBn.tr {X X1 X2 : Nat → Nat → Int} (h : sBn X X1) (k : sBn X1 X2) : sBn X X2 := ⟨k.1.trans h.1, k.2.1.trans h.2.1, fun c hc => (k.2.2 c hc).trans (h.2.2 c hc)⟩
theorem cq_sb : ((List.range 563).all (fun c => !(decide ((2 ≤ c ∧ c < 19) ∨ 483 ≤ c)) || (decide (cK c ≠ 13) && decide (cK c ≠ 15) && decide (cK c ≠ 16)))) = true := by decide +kernel
theorem cK_sb {c : Nat} (hc : (2 ≤ c ∧ c < 19) ∨ 483 ≤ c) : cK c ≠ 13 ∧ cK c ≠ 15 ∧ cK c ≠ 16 := by
  by_cases q : cK c = 0
  · rw [q]
    decide
  · have h1 := jall cq_sb (cK_in (a := c) q)
    simp only [Bool.or_eq_true, Bool.not_eq_true', decide_eq_false_iff_not, Bool.and_eq_true, decide_eq_true_eq] at h1
    rcases h1 with h1 | h1
    · exact absurd hc h1
    · exact ⟨h1.1.1, h1.1.2, h1.2⟩
theorem sBn.fxu {X X1 : Nat → Nat → Int} (h : FXu 481 482 X X1) : sBn X X1 := by
  have e := h 1 (by decide) (by decide) (by decide +kernel) (by decide +kernel) (by decide +kernel) (Or.inl (by decide))
  exact ⟨congrFun e 2, congrFun e 3, fun c hc => h c (by omega) (by omega) (cK_sb hc).1 (cK_sb hc).2.1 (cK_sb hc).2.2 (by omega)⟩
theorem sBn.fxt {X X1 : Nat → Nat → Int} (h : FXt 481 X X1) : sBn X X1 := sBn.fxu (fun a a1 _ a3 a4 a5 a6 => h a a1 a3 a4 a5 a6)
theorem sBn.fx {X X1 : Nat → Nat → Int} (h : FX X X1) : sBn X X1 := sBn.fxt (fun a _ a3 a4 a5 a6 => h a a3 a4 a5 a6)
theorem sBn.xF {X X1 : Nat → Nat → Int} (h : xF (fun x => x = 481) X X1) : sBn X X1 := by
  have e := h.1 1 (by decide) (by decide) (by decide) (by decide) (by decide)
  exact ⟨congrFun e 2, congrFun e 3, fun c hc => h.1 c (by omega) (by omega) (by omega) (by omega) (show ¬ c = 481 by omega)⟩
theorem sBn.row {X : Nat → Nat → Int} {r k : Nat} {w : Nat → Int} (hr : r = 481 ∨ r = 482) : sBn X (xfl X r w k) := by
  have e : ∀ c, c ≠ r → xfl X r w k c = X c := fun c hc => xfl_off _ _ _ hc
  exact ⟨congrFun (e 1 (by omega)) 2, congrFun (e 1 (by omega)) 3, fun c hc => e c (by omega)⟩
theorem sBn.of {X X1 : Nat → Nat → Int} (h : ∀ a, a ≠ 481 → X1 a = X a) : sBn X X1 := ⟨congrFun (h 1 (by decide)) 2, congrFun (h 1 (by decide)) 3, fun c hc => h c (by omega)⟩
theorem cq_13 : ((List.range 563).all (fun c => !(decide (cK c = 13)) || (decide (20 ≤ c) && decide (c < 440)))) = true := by decide +kernel
theorem cK_13 {c : Nat} (h : cK c = 13) : 20 ≤ c ∧ c < 440 := by
  have h1 := jall cq_13 (cK_in (a := c) (by omega))
  simpa [h] using h1
theorem cq_bd : (bydl.all fun x => decide (172 ≤ x ∨ x = 21 ∨ x = 51 ∨ x = 81 ∨ x = 111)) = true := by decide +kernel
theorem by0.dF {V V1 : Nat → Int} (b : by0 V) (h : dF V V1) : by0 V1 := fun x hx => by
  have h1 := of_decide_eq_true (List.all_eq_true.mp cq_bd x hx)
  exact (h x (by omega)).trans (b x hx)
theorem DG.xF {X X1 : Nat → Nat → Int} (d : DG X) (h : xF (fun x => x = 481) X X1) : DG X1 := fun p kp => by
  have q := h.2 ⟨⟨(d 20 cq_d20).1, by have := (d 20 cq_d20).2; rw [mK_z.1] at this; omega⟩, ⟨(d 50 cq_d50).1, by have := (d 50 cq_d50).2; rw [mK_z.2.1] at this; omega⟩, ⟨(d 80 cq_d80).1, by have := (d 80 cq_d80).2; rw [mK_z.2.2.1] at this; omega⟩, ⟨(d 110 cq_d110).1, by have := (d 110 cq_d110).2; rw [mK_z.2.2.2.1] at this; omega⟩⟩
  obtain ⟨q1, q2, q3, q4⟩ := q
  by_cases c1 : p = 20
  · subst c1
    rw [mK_z.1]
    omega
  by_cases c2 : p = 50
  · subst c2
    rw [mK_z.2.1]
    omega
  by_cases c3 : p = 80
  · subst c3
    rw [mK_z.2.2.1]
    omega
  by_cases c4 : p = 110
  · subst c4
    rw [mK_z.2.2.2.1]
    omega
  have c5 : p ≠ 481 := fun e => by
    have := cK_13 kp
    omega
  rw [h.1 p c1 c2 c3 c4 c5]
  exact d p kp
theorem DG.of {X X1 : Nat → Nat → Int} (d : DG X) (h : ∀ p, cK p = 13 → X1 p = X p) : DG X1 := fun p kp => by
  rw [h p kp]
  exact d p kp
theorem BN.cg {X X1 : Nat → Nat → Int} {o : Nat} {N : Nat → Int} (h : ∀ c, o ≤ c → c < o + 10 → X1 c = X c) (q : BN X o N) : BN X1 o N := by
  refine ⟨fun r hr j hj => ?_, ?_, fun k hk => ?_⟩
  · rw [h _ (by omega) (by omega)]
    exact q.1 r hr j hj
  · rw [h _ (by omega) (by omega)]
    exact q.2.1
  · rw [h _ (by omega) (by omega), h _ (by omega) (by omega)]
    exact q.2.2 k hk
theorem CR.sb {X X1 : Nat → Nat → Int} {N : Nat → Int} {u : Nat} {H : Nat → Nat → Int} (s : sBn X X1) (c : CR X N u H) : CR X1 N u H := by
  obtain ⟨e, he, h3, h2, b, bh, tl⟩ := c
  exact ⟨e, he, s.2.1.trans h3, s.1.trans h2, b.cg (fun c c1 c2 => s.2.2 c (by omega)), fun k hk => (bh k hk).cg (fun c c1 c2 => s.2.2 c (by omega)), tl.to (fun c hc => s.2.2 c (by omega))⟩
theorem BN.pt {X : Nat → Nat → Int} {o : Nat} {N : Nat → Int} (g : gN N) (q : BN X o N) : PT X o (N 78).toNat := by
  obtain ⟨g1, g2, g3, g4⟩ := g
  refine ⟨by rw [q.2.1]; omega, by omega, fun i hi => ?_, fun a b hab hb => ?_⟩
  · rw [(q.2.2 i (by omega)).1, (q.2.2 i (by omega)).2]
    exact g3 i (by omega)
  · rw [(q.2.2 a (by omega)).1, (q.2.2 b (by omega)).1]
    exact g4 a b hab (by omega)
theorem BN.sm {X : Nat → Nat → Int} {o : Nat} {N : Nat → Int} (g : gN N) (q : BN X o N) {r : Nat} (hr : r < 6) : sml (X (o + 2 + r)) := fun j hj => by
  rw [q.1 r hr j hj]
  have := g.1 (r * 13 + j) (by omega)
  omega
theorem CR.sm {X : Nat → Nat → Int} {N : Nat → Int} {u : Nat} {H : Nat → Nat → Int} (g : gN N) (c : CR X N u H) {a : Int} (ha : 0 ≤ a ∧ a ≤ 5) : sml (X (4 + a.toNat)) := by
  obtain ⟨e, he, h3, h2, b, bh, tl⟩ := c
  have := b.sm g (r := a.toNat) (by omega)
  exact this
theorem CR.rw {X : Nat → Nat → Int} {N : Nat → Int} {u : Nat} {H : Nat → Nat → Int} (c : CR X N u H) {a : Int} (ha : 0 ≤ a ∧ a ≤ 5) : ∀ j, j < 13 → X (4 + a.toNat) j = rwN N a j := fun j hj => by
  obtain ⟨e, he, h3, h2, b, bh, tl⟩ := c
  have := b.1 a.toNat (by omega) j hj
  show _ = if j < 13 then N (a.toNat * 13 + j) else 0
  rw [if_pos hj]
  exact this
theorem CR.rw13 {X : Nat → Nat → Int} {N : Nat → Int} {u : Nat} {H : Nat → Nat → Int} (c : CR X N u H) {a : Int} (ha : 0 ≤ a ∧ a ≤ 5) : rw13 (X (4 + a.toNat)) = rwN N a := funext fun j => by
  show (if j < 13 then X (4 + a.toNat) j else 0) = _
  by_cases q : j < 13
  · rw [if_pos q]
    exact c.rw ha j q
  · rw [if_neg q]
    show _ = if j < 13 then N (a.toNat * 13 + j) else 0
    rw [if_neg q]
theorem CR.keep {X X2 : Nat → Nat → Int} {N : Nat → Int} {u : Nat} {H : Nat → Nat → Int} {e : Nat} (he : e < 8) (hu : u ≤ 8) (h3 : X 1 3 = (e : Int)) (b : BN X 2 N) (bh : ∀ k, k < u → BN X (483 + 10 * ((e + 7 - k) % 8)) (H k)) (tl : TL X) (kk : kpE X X2 e u) : CR X2 N (upu u) (pushH N H) := by
  obtain ⟨k1, k2, k3, k4, k5⟩ := kk
  refine ⟨(e + 1) % 8, by omega, k3, k4, b.cg (fun c c1 c2 => k2 c (by omega) (by omega)), fun k hk => ?_, tl.to (fun c hc => k2 c (by omega) (by omega))⟩
  have hu2 : upu u = if u < 8 then u + 1 else 8 := rfl
  cases k with
  | zero =>
    rw [show 483 + 10 * (((e + 1) % 8 + 7 - 0) % 8) = 483 + 10 * e by omega]
    show BN X2 (483 + 10 * e) N
    refine ⟨fun r hr j hj => ?_, ?_, fun k hk => ?_⟩
    · exact (k1.1 r hr j hj).trans (b.1 r hr j hj)
    · exact k1.2.1.trans b.2.1
    · have y := k1.2.2 k (by rw [b.2.1]; exact hk)
      exact ⟨y.1.trans (b.2.2 k hk).1, y.2.trans (b.2.2 k hk).2⟩
  | succ k =>
    have hk2 : k < u ∧ k < 7 := by
      rw [hu2] at hk
      split at hk <;> omega
    rw [show 483 + 10 * (((e + 1) % 8 + 7 - (k + 1)) % 8) = 483 + 10 * ((e + 7 - k) % 8) by omega]
    exact (bh k hk2.1).cg (fun c c1 c2 => k2 c (by omega) (by omega))
theorem CR.put {X : Nat → Nat → Int} {N : Nat → Int} {u : Nat} {H : Nat → Nat → Int} {t : Nat} (ht : t < 6) {w : Nat → Int} (c : CR X N u H) : CR (xfl X (4 + t) w 13) (jfl N t w 13) u H := by
  obtain ⟨e, he, h3, h2, b, bh, tl⟩ := c
  refine ⟨e, he, by rw [xfl_off _ _ _ (by omega)]; exact h3, by rw [xfl_off _ _ _ (by omega)]; exact h2, ⟨fun r hr j hj => ?_, ?_, fun k hk => ?_⟩, fun k hk => (bh k hk).cg (fun c c1 c2 => xfl_off _ _ _ (by omega)), tl.to (fun c hc => xfl_off _ _ _ (by omega))⟩
  · by_cases q : r = t
    · subst q
      rw [show 2 + 2 + r = 4 + r by omega, xfl_at _ _ _ hj, jfl_at _ _ _ hj]
    · rw [xfl_off _ _ _ (by omega), jfl_off _ _ _ (by omega)]
      exact b.1 r hr j hj
  · rw [xfl_off _ _ _ (by omega), jfl_off _ _ _ (by omega)]
    exact b.2.1
  · rw [jfl_off _ _ _ (by omega)] at hk
    rw [xfl_off _ _ _ (by omega), xfl_off _ _ _ (by omega), jfl_off _ _ _ (by omega), jfl_off _ _ _ (by omega)]
    exact b.2.2 k hk
theorem kpE.dg {X X2 : Nat → Nat → Int} {e u : Nat} (he : e < 8) (d : DG X) (kk : kpE X X2 e u) : DG X2 := d.of (fun p kp => kk.2.1 p (by have := cK_13 kp; omega) (by have := cK_13 kp; omega))
section MST
variable {g h : mj_H} {n D u : Nat} {V : Nat → Int} {X : Nat → Nat → Int} {N : Nat → Int} {H : Nat → Nat → Int}
/-- a call has thrown: the benches are as before -/
theorem cS.thr (hg : g.length ≤ n) (m : jM g n V X h) (b : by0 V) (d : DG X) (c : CR X N u H) : cS g (n + 1) N u H (h ++ [xE]) := ⟨V, X, m.app hg, b, d, c⟩
theorem mX_keepE (A : AS N u H) (m : jM g n V X h) (d : DG X) (c : CR X N u H) : mj_Ok (D + 4) 156 [.ref 1] h (fun z => ∃ (X2 : Nat → Nat → Int) (h2 : mj_H), jM g n V X2 h2 ∧ DG X2 ∧ CR X2 N (upu u) (pushH N H) ∧ (∀ a, (a < 483 ∨ 563 ≤ a) → a ≠ 1 → X2 a = X a) ∧ z = (.inl none, h2)) := by
  obtain ⟨e, he, h3, h2, b, bh, tl⟩ := c
  refine (mC_keepE (D := D) m he A.2.1 h3 h2 (b.pt A.1)).to (fun z hz => ?_)
  obtain ⟨X2, h2', m2, kk, rfl⟩ := hz
  exact ⟨X2, h2', m2, kk.dg he d, CR.keep he A.2.1 h3 b bh tl kk, fun a ha a1 => kk.2.1 a (by omega) a1, rfl⟩
theorem mX_keep (A : AS N u H) (m : jM g n V X h) (b0 : by0 V) (d : DG X) (c : CR X N u H) {to : Int} (ht : 0 ≤ to ∧ to ≤ 5) (hr : sml (X 481)) : mj_Ok (D + 5) 154 [.ref 1, .int (jn to)] h (fun z => ∃ h2, cS g n (jfl N to.toNat (X 481) 13) (upu u) (pushH N H) h2 ∧ z = (.inl (some (.int (jn ((fdg (X 481) 13 : Int) - 1)))), h2)) := by
  obtain ⟨e, he, h3, h2, b, bh, tl⟩ := c
  have k := mC_keep (D := D) m he A.2.1 h3 h2 (b.pt A.1) (to := to.toNat) (by omega) hr
  rw [Int.toNat_of_nonneg ht.1] at k
  refine k.to (fun z hz => ?_)
  obtain ⟨X2, h2', m2, kk, rfl⟩ := hz
  have c2 := CR.keep he A.2.1 h3 b bh tl kk
  refine ⟨h2', ⟨V, _, m2, b0, (kk.dg he d).of (fun p kp => xfl_off _ _ _ (by have := cK_13 kp; omega)), c2.put (by omega)⟩, rfl⟩
theorem gN_w {to : Int} {w : Nat → Int} (gn : gN N) (ht : 0 ≤ to ∧ to ≤ 5) (hw : sml w) : gN (jfl N to.toNat w 13) := by
  have h1 := gN_row (r := to.toNat) (p := 0) (V := w) gn (by omega) (fun e he => by have := hw e he; rw [Nat.zero_mul, Nat.zero_add]; omega)
  simp only [Nat.zero_mul, Nat.zero_add] at h1
  exact h1
theorem AS.push {to : Int} {w : Nat → Int} (A : AS N u H) (ht : 0 ≤ to ∧ to ≤ 5) (hw : sml w) : AS (jfl N to.toNat w 13) (upu u) (pushH N H) := by
  refine ⟨gN_w A.1 ht hw, by unfold upu; split <;> omega, fun k hk => ?_⟩
  cases k with
  | zero => exact A.1
  | succ k => exact A.2.2 k (by have := A.2.1; unfold upu at hk; split at hk <;> omega)
end MST
