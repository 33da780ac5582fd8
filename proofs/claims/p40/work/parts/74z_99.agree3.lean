/-! Both sides: what a call does to what is kept, and that two such descriptions agree. -/
abbrev SP : Type := (Nat → Int) → Nat → (Nat → Nat → Int) → Prop
def eqS (N1 : Nat → Int) (u1 : Nat) (H1 : Nat → Nat → Int) (N2 : Nat → Int) (u2 : Nat) (H2 : Nat → Nat → Int) : Prop := eqB N1 N2 ∧ u1 = u2 ∧ ∀ k, k < u2 → eqB (H1 k) (H2 k)
theorem eqS.rf (N : Nat → Int) (u : Nat) (H : Nat → Nat → Int) : eqS N u H N u H := ⟨eqB.rf N, rfl, fun k _ => eqB.rf (H k)⟩
def AgP (P1 P2 : SP) : Prop := ∀ N1 u1 H1 N2 u2 H2, P1 N1 u1 H1 → P2 N2 u2 H2 → eqS N1 u1 H1 N2 u2 H2
/-- a row is laid, or nothing changes -/
def clQ (C : Prop) (R : Nat → Int) (to : Nat) (N : Nat → Int) (u : Nat) (H : Nat → Nat → Int) : SP := fun N' u' H' => (C ∧ ∃ w : Nat → Int, (∀ j, j < 13 → w j = R j) ∧ N' = jfl N to w 13 ∧ u' = upu u ∧ H' = pushH N H) ∨ (¬ C ∧ N' = N ∧ u' = u ∧ H' = H)
def sameQ (N : Nat → Int) (u : Nat) (H : Nat → Nat → Int) : SP := fun N' u' H' => N' = N ∧ u' = u ∧ H' = H
theorem clQ.ag {C : Prop} {R : Nat → Int} {to : Nat} {N : Nat → Int} {u : Nat} {H : Nat → Nat → Int} (ht : C → to ≤ 5) : AgP (clQ C R to N u H) (clQ C R to N u H) := fun N1 u1 H1 N2 u2 H2 a b => by
  rcases a with ⟨c1, w1, a1, rfl, rfl, rfl⟩ | ⟨c1, rfl, rfl, rfl⟩
  · rcases b with ⟨c2, w2, b1, rfl, rfl, rfl⟩ | ⟨c2, _, _, _⟩
    · exact ⟨eqB.row (ht c1) (fun j hj => (a1 j hj).trans (b1 j hj).symm), rfl, fun k _ => eqB.rf _⟩
    · exact absurd c1 c2
  · rcases b with ⟨c2, _⟩ | ⟨c2, rfl, rfl, rfl⟩
    · exact absurd c2 c1
    · exact eqS.rf _ _ _
theorem sameQ.ag (N : Nat → Int) (u : Nat) (H : Nat → Nat → Int) : AgP (sameQ N u H) (sameQ N u H) := fun N1 u1 H1 N2 u2 H2 a b => by
  obtain ⟨rfl, rfl, rfl⟩ := a
  obtain ⟨rfl, rfl, rfl⟩ := b
  exact eqS.rf _ _ _
/-- the class behind a call -/
def cZ (g : mj_H) (P : SP) (r : mj_R) : Prop := ∃ n' N' u' H', P N' u' H' ∧ cS g n' N' u' H' r.2
/-- the class's cells hold this -/
def cC (N : Nat → Int) (u : Nat) (H : Nat → Nat → Int) (h : mj_H) : Prop := cS h h.length N u H h
def yZ (P : SP) (h : mj_H) : Prop := ∃ N' u' H', P N' u' H' ∧ cC N' u' H' h
/-- the reference behind a call -/
def rZ (P : SP) (tm er : Int) (T : Nat → Int) (r : mj_R) : Prop := ∃ N' u' H', P N' u' H' ∧ jIx N' u' H' tm er T r.2
section AG3
variable {g h h' : mj_H} {n u : Nat} {N : Nat → Int} {H : Nat → Nat → Int}
theorem jMk_fr {V : Nat → Int} {X : Nat → Nat → Int} (hf : ∀ a, cK a ≠ 0 → h'[a]? = h[a]?) (a : Nat) (m : jMk V X h (cK a) a) : jMk V X h' (cK a) a := by
  unfold jMk at m ⊢
  by_cases k0 : cK a = 0
  · rw [if_pos k0]
    trivial
  have e1 := hf a k0
  rw [if_neg k0] at m ⊢
  by_cases k18 : cK a = 18
  · rw [if_pos k18] at m ⊢
    have e2 := hf (a + 1) (by rw [(mK_w (Or.inl k18)).1]; decide)
    unfold wX wT wW at m ⊢
    rw [e1, e2]
    exact m
  rw [if_neg k18] at m ⊢
  by_cases k12 : cK a = 12
  · rw [if_pos k12] at m ⊢
    have e2 := hf (a + 1) (by rw [(mK_w (Or.inr k12)).1]; decide)
    unfold dX dT wD at m ⊢
    rw [e1, e2]
    exact m
  rw [if_neg k12] at m ⊢
  rw [e1]
  exact m
theorem cS.fr (s : cS g n N u H h) (hf : ∀ a, cK a ≠ 0 → h'[a]? = h[a]?) : cC N u H h' := by
  obtain ⟨V, X, m, b, d, c⟩ := s
  exact ⟨V, X, ⟨rfl, fun a ha => ⟨fun _ => rfl, fun h1 h2 => absurd h1 (by omega)⟩, fun a => jMk_fr hf a (m.2.2 a)⟩, b, d, c⟩
theorem cS.cC (s : cS g n N u H h) : cC N u H h := s.fr (fun _ _ => rfl)
theorem cC.fr (s : cC N u H h) (hf : ∀ a, cK a ≠ 0 → h'[a]? = h[a]?) : cC N u H h' := cS.fr s hf
theorem cZ.yz {P : SP} {r : mj_R} (y : cZ g P r) : yZ P r.2 := by
  obtain ⟨n', N', u', H', p, s⟩ := y
  exact ⟨N', u', H', p, s.cC⟩
theorem cZ.set {P : SP} {x : Option Value ⊕ Nat} {h1 : mj_H} {e : mj_E} (y : cZ g P (x, h1)) : yZ P (h1.set 571 e) := by
  obtain ⟨n', N', u', H', p, s⟩ := y
  exact ⟨N', u', H', p, cS.fr s (fun a ha => List.getElem?_set_ne (fun q => ha (by rw [← q]; exact cK_out (by decide))))⟩
theorem yZ.fr {P : SP} (y : yZ P h) (hf : ∀ a, cK a ≠ 0 → h'[a]? = h[a]?) : yZ P h' := by
  obtain ⟨N', u', H', p, s⟩ := y
  exact ⟨N', u', H', p, s.fr hf⟩
theorem cC.cg {N' : Nat → Int} {u' : Nat} {H' : Nat → Nat → Int} (s : cC N u H h) (e : eqS N u H N' u' H') : cC N' u' H' h := by
  obtain ⟨e1, e2, e3⟩ := e
  subst e2
  exact cS.cgN e1 e3 s
theorem RO.cz {reg : Prop} {fail : Nat → Prop} {res : (Nat → Int) → Prop} {to : Int} {z : mj_R} (r : RO g n N u H reg fail res to z) (C : Prop) (R : Nat → Int) (h1 : C → reg) (h2 : ∀ k, fail k → ¬ C) (h3 : ∀ w, reg → res w → sml w → C ∧ ∀ j, j < 13 → w j = R j) : cZ g (clQ C R to.toNat N u H) z := by
  rcases r with ⟨a, w, h9, b, c, d, rfl⟩ | ⟨k, h9, a, b, rfl⟩
  · obtain ⟨e1, e2⟩ := h3 w a c b
    exact ⟨_, _, _, _, Or.inl ⟨e1, w, e2, rfl, rfl, rfl⟩, d⟩
  · refine ⟨_, _, _, _, Or.inr ⟨fun q => ?_, rfl, rfl, rfl⟩, b⟩
    rcases a with ⟨a, _⟩ | ⟨_, a⟩
    · exact a (h1 q)
    · exact h2 k a q
theorem rIx.z {tm er : Int} {T : Nat → Int} {r : mj_R} {N' : Nat → Int} {u' : Nat} {H' : Nat → Nat → Int} {P : SP} (k : rIx N' u' H' tm er T r) (p : P N' u' H') : rZ P tm er T r := by
  obtain ⟨z, h9, _, rfl, a⟩ := k
  exact ⟨N', u', H', p, a⟩
theorem rJx.z {tm er : Int} {T : Nat → Int} {r : mj_R} {N' : Nat → Int} {u' : Nat} {H' : Nat → Nat → Int} {P : SP} (k : rJx N' u' H' tm er T r) (p : P N' u' H') : rZ P tm er T r := by
  obtain ⟨z, h9, rfl, a⟩ := k
  exact ⟨N', u', H', p, a⟩
theorem rDx.z {tm er : Int} {T : Nat → Int} {r : mj_R} {N' : Nat → Int} {u' : Nat} {H' : Nat → Nat → Int} {P : SP} (k : rDx N' u' H' tm er T r) (p : P N' u' H') : rZ P tm er T r := by
  obtain ⟨z, h9, rfl, a⟩ := k
  exact ⟨N', u', H', p, a⟩
theorem rEx.z {tm er : Int} {T : Nat → Int} {r : mj_R} {N' : Nat → Int} {u' : Nat} {H' : Nat → Nat → Int} {P : SP} (k : rEx N' u' H' tm er T r) (p : P N' u' H') : rZ P tm er T r := by
  obtain ⟨z, h9, rfl, a⟩ := k
  exact ⟨N', u', H', p, a⟩
theorem RR.rz {tm er : Int} {T : Nat → Int} {reg : Prop} {res : (Nat → Int) → Prop} {to : Int} {z : mj_R} (r : RR tm er T N u H reg res to z) (R : Nat → Int) (h3 : ∀ w, res w → ∀ j, j < 13 → w j = R j) : rZ (clQ (reg ∧ sml R) R to.toNat N u H) tm er T z := by
  rcases r with ⟨a, w, b, ⟨c, d⟩ | ⟨c, d⟩⟩ | ⟨a, d⟩
  · exact d.z (Or.inl ⟨⟨a, sml_cg (h3 w b) c⟩, w, h3 w b, rfl, rfl, rfl⟩)
  · exact d.z (Or.inr ⟨fun q => c (sml_cg (fun j hj => (h3 w b j hj).symm) q.2), rfl, rfl, rfl⟩)
  · exact d.z (Or.inr ⟨fun q => a q.1, rfl, rfl, rfl⟩)
theorem RP.rz {tm er : Int} {T : Nat → Int} {reg : Prop} {P : pz_P} {to : Int} {z : mj_R} (r : RP tm er T N u H reg P to z) : rZ (clQ (reg ∧ fit13 P) P to.toNat N u H) tm er T z := by
  rcases r with ⟨a, ⟨b, w, c, d⟩ | ⟨b, d⟩⟩ | ⟨a, d⟩
  · exact d.z (Or.inl ⟨⟨a, b⟩, w, c, rfl, rfl, rfl⟩)
  · exact d.z (Or.inr ⟨fun q => b q.2, rfl, rfl, rfl⟩)
  · exact d.z (Or.inr ⟨fun q => a q.1, rfl, rfl, rfl⟩)
theorem jIx.AS {tm er : Int} {T : Nat → Int} (I : jIx N u H tm er T h) : AS N u H := by
  obtain ⟨S, N1, B, X, V, hs, ⟨k1, k2, k3, _⟩, kn, ku, kh⟩ := I
  have hu : u ≤ 8 := by omega
  refine ⟨gN_congr (fun j hj => (kn j hj).symm) k1, hu, fun k hk => ?_⟩
  exact gN_congr (fun j hj => (kh k hk j hj).symm) (k3 (u - 1 - k) (by omega))
end AG3
