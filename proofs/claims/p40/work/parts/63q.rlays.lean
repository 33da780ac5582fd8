/-! The reference's row of Sturm. -/
section JPF
variable {D pc : Nat} {M : mj_M} {loc : mj_L} {st : List Value} {h : mj_H} {Q : mj_R → Prop} {n ci f a r3 r4 r5 : Nat}
/-- a field is written -/
theorem mj_T.pfl {fs : List Value} {v : Value} (hc : M.2.2.2.2.1 pc = some (.putfield n, ci, f, r3, r4, r5)) (ha : h[a]? = some (.inr (ci, fs))) (hf : f < fs.length) (hv : mj_fit r3 v = true) (k : mj_T D M (pc + 3) loc st (h.set a (.inr (ci, fs.set f v))) Q) : mj_T D M pc loc (v :: .ref a :: st) h Q :=
  mj_T.step hc rfl (by simp only [mj_step, ha, hf, hv, and_self, if_true]) k
end JPF
/-- the heap after a write of a field of the reference -/
def jrl (hp : mj_H) (q0 : Nat) (fs : List Value) (n : Nat) : mj_H := hp.set q0 (.inr (10, fs.set 7 (.int (jn (n : Nat)))))
section JRL
variable {D : Nat} {hp h : mj_H} {q0 q1 q2 q3 : Nat} {fs : List Value} {V : Nat → Int} {a : Nat}
theorem jG_put (G : jG hp q0 q1 q2 q3 fs) {k : Nat} {v : Value} (h4 : k ≠ 4) (h5 : k ≠ 5) (h6 : k ≠ 6) : jG (hp.set q0 (.inr (10, fs.set k v))) q0 q1 q2 q3 (fs.set k v) := by
  obtain ⟨⟨⟨c1, c2, c3, c4⟩, e1, e2, e3, e4⟩, g1, g2, g3, g4, g5⟩ := G
  have hl : q0 < hp.length := by
    by_cases c : q0 < hp.length
    · exact c
    · rw [List.getElem?_eq_none (by omega)] at c1
      cases c1
  exact ⟨⟨⟨List.getElem?_set_self hl, by rw [List.getElem?_set_ne h4]; exact c2, c3, by rw [List.length_set]; exact c4⟩, by rw [List.getElem?_set_ne h5]; exact e1, e2, e3, by rw [List.length_set]; exact e4⟩, by rw [List.getElem?_set_ne h6]; exact g1, g2, g3, g4, by rw [List.length_set]; exact g5⟩
theorem jS_put (G : jG hp q0 q1 q2 q3 fs) {E : mj_E} (hs : jS hp q1 q2 q3 V h) : jS (hp.set q0 E) q1 q2 q3 V (h.set q0 E) := by
  obtain ⟨⟨⟨c1, c2, c3, c4⟩, e1, e2, e3, e4⟩, g1, g2, g3, g4, g5⟩ := G
  obtain ⟨bg, ov, db, hV, rfl⟩ := hs
  refine ⟨bg, ov, db, hV, ?_⟩
  show ((((hp.set q3 _).set q2 _).set q1 _).set q0 E) = (((hp.set q0 E).set q3 _).set q2 _).set q1 _
  rw [List.set_comm _ _ (Ne.symm c3), List.set_comm _ _ e2, List.set_comm _ _ g2]
theorem jrl_G (G : jG hp q0 q1 q2 q3 fs) (n : Nat) : jG (jrl hp q0 fs n) q0 q1 q2 q3 (fs.set 7 (.int (jn (n : Nat)))) := jG_put G (by decide) (by decide) (by decide)
theorem jrl_first (G : jG hp q0 q1 q2 q3 fs) (m : Nat) (hs : jS hp q1 q2 q3 V h) : jS (jrl hp q0 fs m) q1 q2 q3 V (h.set q0 (.inr (10, fs.set 7 (.int (jn (m : Nat)))))) := jS_put G hs
theorem jrl_put (G : jG hp q0 q1 q2 q3 fs) {n : Nat} (m : Nat) (hs : jS (jrl hp q0 fs n) q1 q2 q3 V h) : jS (jrl hp q0 fs m) q1 q2 q3 V (h.set q0 (.inr (10, (fs.set 7 (.int (jn (n : Nat)))).set 7 (.int (jn (m : Nat)))))) := by
  have k := jS_put (jrl_G G n) (E := .inr (10, (fs.set 7 (.int (jn (n : Nat)))).set 7 (.int (jn (m : Nat))))) hs
  have e : (jrl hp q0 fs n).set q0 (.inr (10, (fs.set 7 (.int (jn (n : Nat)))).set 7 (.int (jn (m : Nat))))) = jrl hp q0 fs m := by
    unfold jrl
    rw [List.set_set, List.set_set]
  rw [e] at k
  exact k
end JRL
def klr (A : Nat) (f g x y : pz_P) : Prop := kq_J A f g x y ∨ (x = f ∧ kq_rel g y)
theorem klr_fits {A : Nat} (hA : kq_fit A) {f g : pz_P} (hf : pz_lt f 13) (hg : pz_lt g 13) (hfA : ∀ i, (f i).natAbs ≤ A) (hgA : ∀ i, (g i).natAbs ≤ A) (x y : pz_P) (db n : Nat) (hJ : klr A f g x y) (hx : pz_lt x (db + n)) (hxl : 1 ≤ n → x (db + n - 1) ≠ 0) (hy : pz_lt y (db + 1)) (hyl : y db ≠ 0) (hdb : db < 13) : ∃ al be : Nat, 1 ≤ be ∧ (∀ i, (x i).natAbs ≤ al) ∧ (∀ i, (y i).natAbs ≤ be) ∧ al * (2 * be) ^ n < jB ^ 698 := by
  rcases hJ with h | ⟨h1, h2⟩
  · exact kq_fits hA hf hg hfA hgA x y db n h hx hxl hy hyl hdb
  · refine ⟨A, A, hA.1, by rw [h1]; exact hfA, kq_rel_le h2 hgA, ?_⟩
    have hA1 := hA.1
    have hn : n ≤ 13 := by
      rcases Nat.eq_zero_or_pos n with e | e
      · omega
      · by_cases e2 : n ≤ 13
        · exact e2
        · exact absurd (hf (db + n - 1) (by omega)) (by rw [← h1]; exact hxl e)
    exact Nat.lt_of_le_of_lt (Nat.mul_le_mul_left _ (Nat.pow_le_pow_right (by omega) hn)) hA.2.2
theorem klr_step {A : Nat} (hA : 1 ≤ A) {f g : pz_P} (hf : pz_lt f 13) (hg : pz_lt g 13) (hfA : ∀ i, (f i).natAbs ≤ A) (hgA : ∀ i, (g i).natAbs ≤ A) (hfe : ∃ f0, kq_rel f f0) (x y q r r1 : pz_P) (db : Nat) (hJ : klr A f g x y) (hy : pz_lt y (db + 1)) (hyl : y db ≠ 0) {c0 : Int} (hc0 : c0 ≠ 0) (hrel : pz_sc c0 x = pz_add (pz_mul q y) r) (hq : pz_lt q 13) (hr : pz_lt r db) (hr1 : kq_rel r r1) : klr A f g y r1 := by
  refine Or.inl ?_
  rcases hJ with h | ⟨h1, h2⟩
  · exact kq_step hA hf hg hfA hgA x y q r r1 db h hy hyl hc0 hrel hq hr hr1
  · obtain ⟨f0, k⟩ := hfe
    rcases k with ⟨k1, k2⟩ | ⟨c, k1, k2, k3⟩
    · exact kq_step hA hf hg hfA hgA x y q r r1 db (by rw [h1.trans (k1.trans k2.symm)]; exact kq_start (Or.inl ⟨k1, k2⟩) h2) hy hyl hc0 hrel hq hr hr1
    · refine kq_step hA hf hg hfA hgA f0 y q r r1 db (kq_start (Or.inr ⟨c, k1, k2, k3⟩) h2) hy hyl (c0 := c0 * c) (fun e => ?_) ?_ hq hr hr1
      · rcases Int.mul_eq_zero.mp e with e | e
        · exact hc0 e
        · exact k1 e
      · rw [← pz_sc_sc, ← k2, ← h1]
        exact hrel
theorem klr_ybound {A : Nat} (hA : 1 ≤ A) {f g x y : pz_P} (hgA : ∀ i, (g i).natAbs ≤ A) (hJ : klr A f g x y) : ∀ i, (y i).natAbs ≤ kq_F A 24 := by
  rcases hJ with h | ⟨h1, h2⟩
  · exact kq_ybound hA hgA h
  · exact fun i => Nat.le_trans (kq_rel_le h2 hgA i) (kq_F_ge hA (by decide))
theorem kq_rel_ex {f : pz_P} : ∃ f0, kq_rel f f0 := by
  by_cases h : f = pz_0
  · exact ⟨pz_0, Or.inl ⟨h, rfl⟩⟩
  · by_cases k : ∃ i, f i ≠ 0
    · obtain ⟨i, hi⟩ := k
      obtain ⟨t, u, t0, t1, t2⟩ := pz_content _ f i hi (Nat.le_refl _)
      exact ⟨u, Or.inr ⟨t, by omega, t1, t2⟩⟩
    · exact absurd (funext fun i => Classical.byContradiction fun q => k ⟨i, q⟩) h
theorem kq_rel_sg {r y : pz_P} {s : Int} (hs : s = 1 ∨ s = -1) (h : kq_rel (pz_sc s r) y) : kq_rel r y := by
  have e : r = pz_sc s (pz_sc s r) := by
    rw [pz_sc_sc]
    rcases hs with k | k <;> subst k <;> exact (pz_sc_one r).symm
  rcases h with ⟨h1, h2⟩ | ⟨c, h1, h2, h3⟩
  · refine Or.inl ⟨?_, h2⟩
    rw [e, h1]
    exact funext fun i => Int.mul_zero _
  · refine Or.inr ⟨s * c, ?_, ?_, h3⟩
    · rcases hs with k | k <;> subst k <;> omega
    · rw [e, h2, pz_sc_sc]
theorem jdg_zle {V W : Nat → Int} {p : Nat} : ∀ k, (∀ e, e < k → V (p * 13 + e) = 0 → W (p * 13 + e) = 0) → jdg W p k ≤ jdg V p k
  | 0, _ => Nat.le_refl _
  | k + 1, h => by
    have ih := jdg_zle k (fun e he => h e (by omega))
    show (if W (p * 13 + k) = 0 then jdg W p k else k + 1) ≤ (if V (p * 13 + k) = 0 then jdg V p k else k + 1)
    split
    · have := jdg_le V p k
      split <;> omega
    · rename_i c
      rw [if_neg (fun e => c (h k (by omega) e))]
      exact Nat.le_refl _
theorem jdg_of_zero {W : Nat → Int} {p d k : Nat} (h : ∀ e, d ≤ e → e < k → W (p * 13 + e) = 0) : jdg W p k ≤ d := by
  rcases Nat.lt_or_ge d (jdg W p k) with c | c
  · have := jdg_le W p k
    exact absurd (h (jdg W p k - 1) (by omega) (by omega)) (jdg_ne W p k (by omega))
  · exact c
section JLR
variable {D : Nat} {hp h : mj_H} {q0 q1 q2 q3 : Nat} {fs : List Value} {V : Nat → Int} {a : Nat}
theorem jp_lr (G : jG hp q0 q1 q2 q3 fs) (h7 : 7 < fs.length) {A : Nat} (hA : kq_fit A) {f g : pz_P} (hf : pz_lt f 13) (hg : pz_lt g 13) (hfA : ∀ i, (f i).natAbs ≤ A) (hgA : ∀ i, (g i).natAbs ≤ A) {Q : mj_R → Prop}
    (hend : ∀ (k : Nat) (W : Nat → Int) (h : mj_H), k ≤ 12 → jS (jrl hp q0 fs (k + 1)) q1 q2 q3 W h → (∀ p, 9 ≤ p → p ≤ 9 + k → 1 ≤ jdg W p 13 ∧ ∀ e, e < 13 → (W (p * 13 + e)).natAbs ≤ kq_F A 24) → (∀ s, (s < 26 ∨ 52 ≤ s) → (s < 130 ∨ 299 ≤ s) → s ≠ 652 → s ≠ 653 → s ≠ 654 → s ≠ 655 → s ≠ 663 → s ≠ 664 → W s = V s) → Q (.inl none, h)) :
    ∀ (d k : Nat) (W : Nat → Int) (h : mj_H) (e2 e3 e4 : Option Value), jdg W (10 + k) 13 ≤ d → k + 1 + jdg W (10 + k) 13 ≤ 13 → jS (jrl hp q0 fs (k + 1)) q1 q2 q3 W h → (∀ p, 9 ≤ p → p ≤ 9 + k → 1 ≤ jdg W p 13 ∧ ∀ e, e < 13 → (W (p * 13 + e)).natAbs ≤ kq_F A 24) → (∀ y1, kq_rel (jpo W (10 + k)) y1 → klr A f g (jpo W (9 + k)) y1) → (∀ s, (s < 26 ∨ 52 ≤ s) → (s < 130 ∨ 299 ≤ s) → s ≠ 652 → s ≠ 653 → s ≠ 654 → s ≠ 655 → s ≠ 663 → s ≠ 664 → W s = V s) → mj_T (D + 7) mj_m216 19 [some (.ref q0), some (.int (jn (a : Nat))), e2, e3, e4] [] h Q := by
  intro d
  induction d with
  | zero =>
    intro k W h e2 e3 e4 hd hk hs hrow hJ hfr
    have hd0 : jdg W (10 + k) 13 = 0 := by omega
    iterate 3 refine mj_T.pl rfl rfl rfl rfl ?_
    refine mj_T.gfl rfl (jS_a (jrl_G G (k + 1)) hs) (List.getElem?_set_self h7) ?_
    refine mj_T.iadd (a := 9) (b := ((k + 1 : Nat) : Int)) rfl ?_
    rw [show (9 : Int) + ((k + 1 : Nat) : Int) = ((10 + k : Nat) : Int) by omega]
    refine mj_T.call (ins := .invokevirtual 114) rfl rfl (Nat.le_of_ble_eq_true rfl) (Nat.le_of_ble_eq_true rfl) (by simp [mj_recv, jS_a (jrl_G G (k + 1)) hs]) rfl (jp_degreeOf (D := D + 5) (jrl_G G (k + 1)) (p := 10 + k) (by omega) hs) (fun v' h' hq' => ?_) (fun i h' hq' => by cases hq')
    cases hq'
    rw [hd0]
    refine mj_T.if0 (a := ((0 : Nat) : Int) - 1) rfl ⟨by decide, by decide⟩ (fun hc => ?_) (fun hc => ?_)
    · exact mj_T.ret rfl rfl rfl (hend k W h (by omega) hs hrow hfr)
    · simp [jc] at hc
  | succ d ih =>
    intro k W h e2 e3 e4 hd hk hs hrow hJ hfr
    have hdl := jdg_le W (10 + k) 13
    iterate 3 refine mj_T.pl rfl rfl rfl rfl ?_
    refine mj_T.gfl rfl (jS_a (jrl_G G (k + 1)) hs) (List.getElem?_set_self h7) ?_
    refine mj_T.iadd (a := 9) (b := ((k + 1 : Nat) : Int)) rfl ?_
    rw [show (9 : Int) + ((k + 1 : Nat) : Int) = ((10 + k : Nat) : Int) by omega]
    refine mj_T.call (ins := .invokevirtual 114) rfl rfl (Nat.le_of_ble_eq_true rfl) (Nat.le_of_ble_eq_true rfl) (by simp [mj_recv, jS_a (jrl_G G (k + 1)) hs]) rfl (jp_degreeOf (D := D + 5) (jrl_G G (k + 1)) (p := 10 + k) (by omega) hs) (fun v' h' hq' => ?_) (fun i h' hq' => by cases hq')
    cases hq'
    refine mj_T.if0 (a := (jdg W (10 + k) 13 : Int) - 1) rfl ⟨by omega, by omega⟩ (fun hc => ?_) (fun hc => ?_)
    · simp only [jc, decide_eq_true_eq] at hc
      exact mj_T.ret rfl rfl rfl (hend k W h (by omega) hs hrow hfr)
    simp only [jc, decide_eq_false_iff_not] at hc
    iterate 3 refine mj_T.pl rfl rfl rfl rfl ?_
    refine mj_T.gfl rfl (jS_a (jrl_G G (k + 1)) hs) (List.getElem?_set_self h7) ?_
    refine mj_T.iadd (a := 9) (b := ((k + 1 : Nat) : Int)) rfl ?_
    rw [show (9 : Int) + ((k + 1 : Nat) : Int) = ((10 + k : Nat) : Int) by omega]
    refine mj_T.call (ins := .invokevirtual 136) rfl rfl (Nat.le_of_ble_eq_true rfl) (Nat.le_of_ble_eq_true rfl) (by simp [mj_recv, jS_a (jrl_G G (k + 1)) hs]) rfl (jp_shrinks (D := D) (jrl_G G (k + 1)) (p := 10 + k) (by omega) hs) (fun v' h1 hq' => ?_) (fun i h' hq' => by obtain ⟨_, _, _, _, _, h⟩ := hq'; cases h)
    obtain ⟨W1, _, hs1, a1, a2, hq'⟩ := hq'
    cases hq'
    have b1 := jcm_prim (V := W) (W := W1) (p := 10 + k) (f := 1) (Or.inl rfl) (fun e he => by rw [a1 e he, Int.one_mul])
    have b2 := hJ _ b1
    have b3 : jpo W1 (9 + k) = jpo W (9 + k) := jpo_eq fun e he => a2 _ (by omega) (by omega) (by omega) (by omega) (by omega) (by omega)
    rw [← b3] at b2
    have hne : jpo W (10 + k) ≠ pz_0 := fun e => by
      have k1 := congrFun e (jdg W (10 + k) 13 - 1)
      rw [jpo_at (show jdg W (10 + k) 13 - 1 < 13 by omega)] at k1
      exact jdg_ne W (10 + k) 13 (by omega) k1
    have hne1 : jpo W1 (10 + k) ≠ pz_0 := by
      rcases b1 with ⟨e, _⟩ | ⟨_, _, _, e⟩
      · exact absurd e hne
      · exact kq_prim_ne e
    have hj1 := jpo_ne hne1
    have hj2 : jdg W1 (10 + k) 13 ≤ jdg W (10 + k) 13 := jdg_zle 13 fun e he h0 => by rw [a1 e he, h0, Int.zero_tdiv]
    obtain ⟨db, hdb⟩ : ∃ db, jdg W1 (10 + k) 13 = db + 1 := ⟨jdg W1 (10 + k) 13 - 1, by omega⟩
    have hlead := jdg_ne W1 (10 + k) 13 hj1
    rw [hdb, Nat.add_sub_cancel] at hlead
    have hyl : pz_lt (jpo W1 (10 + k)) (db + 1) := fun i hi => by
      unfold jpo
      split
      · rename_i c
        exact jdg_zero W1 (10 + k) 13 i (by omega) c
      · rfl
    have ydb : jpo W1 (10 + k) db = W1 ((10 + k) * 13 + db) := jpo_at (by omega)
    have hal1 := jdg_le W1 (9 + k) 13
    have hxl : pz_lt (jpo W1 (9 + k)) (db + (jdg W1 (9 + k) 13 - db)) := fun i hi => by
      unfold jpo
      split
      · rename_i c
        exact jdg_zero W1 (9 + k) 13 i (by omega) c
      · rfl
    have hxn : 1 ≤ jdg W1 (9 + k) 13 - db → jpo W1 (9 + k) (db + (jdg W1 (9 + k) 13 - db) - 1) ≠ 0 := fun hn => by
      rw [show db + (jdg W1 (9 + k) 13 - db) - 1 = jdg W1 (9 + k) 13 - 1 by omega, jpo_at (show jdg W1 (9 + k) 13 - 1 < 13 by omega)]
      exact jdg_ne W1 (9 + k) 13 (by omega)
    obtain ⟨al, be, hbe1, hal0, hbe0, hfit⟩ := klr_fits hA hf hg hfA hgA _ _ db (jdg W1 (9 + k) 13 - db) b2 hxl hxn hyl (by rw [ydb]; exact hlead) (by omega)
    have hal : ∀ e, e < 13 → (W1 ((9 + k) * 13 + e)).natAbs ≤ al := fun e he => by
      rw [← jpo_at (V := W1) (p := 9 + k) he]
      exact hal0 e
    have hbe : ∀ e, e < 13 → (W1 ((10 + k) * 13 + e)).natAbs ≤ be := fun e he => by
      rw [← jpo_at (V := W1) (p := 10 + k) he]
      exact hbe0 e
    have hyb : ∀ e, e < 13 → (W1 ((10 + k) * 13 + e)).natAbs ≤ kq_F A 24 := fun e he => by
      rw [← jpo_at (V := W1) (p := 10 + k) he]
      exact klr_ybound hA.1 hgA b2 e
    iterate 2 refine mj_T.pl rfl rfl rfl rfl ?_
    refine mj_T.gfl rfl (jS_a (jrl_G G (k + 1)) hs1) (List.getElem?_set_self h7) ?_
    refine mj_T.pl rfl rfl rfl rfl ?_
    refine mj_T.iadd (a := ((k + 1 : Nat) : Int)) (b := 1) rfl ?_
    rw [show ((k + 1 : Nat) : Int) + 1 = ((k + 1 + 1 : Nat) : Int) by omega]
    refine mj_T.pfl rfl (jS_a (jrl_G G (k + 1)) hs1) (by rw [List.length_set]; exact h7) rfl ?_
    have hs2 := jrl_put G (k + 1 + 1) hs1
    generalize h1.set q0 (.inr (10, (fs.set 7 (.int (jn ((k + 1 : Nat) : Int)))).set 7 (.int (jn ((k + 1 + 1 : Nat) : Int))))) = h2 at hs2
    iterate 2 refine mj_T.pl rfl rfl rfl rfl ?_
    refine mj_T.gfl rfl (jS_a (jrl_G G (k + 1 + 1)) hs2) (List.getElem?_set_self h7) ?_
    refine mj_T.iadd (a := 9) (b := ((k + 1 + 1 : Nat) : Int)) rfl ?_
    refine mj_T.pl rfl rfl rfl rfl ?_
    refine mj_T.isub (b := 1) rfl ?_
    rw [show (9 : Int) + ((k + 1 + 1 : Nat) : Int) - 1 = ((10 + k : Nat) : Int) by omega]
    iterate 5 refine mj_T.pl rfl rfl rfl rfl ?_
    refine mj_T.call (ins := .invokevirtual 114) rfl rfl (Nat.le_of_ble_eq_true rfl) (Nat.le_of_ble_eq_true rfl) (by simp [mj_recv, jS_a (jrl_G G (k + 1 + 1)) hs2]) rfl (jp_degreeOf (D := D + 5) (jrl_G G (k + 1 + 1)) (p := 10 + k) (by omega) hs2) (fun v' h' hq' => ?_) (fun i h' hq' => by cases hq')
    cases hq'
    rw [hdb, show ((db + 1 : Nat) : Int) - 1 = (db : Int) by omega]
    refine mj_T.call (ins := .invokestatic 104) rfl rfl (Nat.le_of_ble_eq_true rfl) (Nat.le_of_ble_eq_true rfl) rfl rfl (jq_slot (D := D + 6) (p := 10 + k) (i := db)) (fun v' h' hq' => ?_) (fun i h' hq' => by cases hq')
    cases hq'
    refine mj_T.call (ins := .invokevirtual 68) rfl rfl (Nat.le_of_ble_eq_true rfl) (Nat.le_of_ble_eq_true rfl) (by simp [mj_recv, jS_a (jrl_G G (k + 1 + 1)) hs2]) rfl (jS_sign (D := D + 6) (jrl_G G (k + 1 + 1)) (s := (10 + k) * 13 + db) (by omega) hs2) (fun v' h' hq' => ?_) (fun i h' hq' => by cases hq')
    cases hq'
    iterate 6 refine mj_T.pl rfl rfl rfl rfl ?_
    refine mj_T.isub (b := 1) rfl ?_
    rw [show ((10 + k : Nat) : Int) - 1 = ((9 + k : Nat) : Int) by omega]
    refine mj_T.pl rfl rfl rfl rfl ?_
    refine mj_T.call (ins := .invokevirtual 145) rfl rfl (Nat.le_of_ble_eq_true rfl) (Nat.le_of_ble_eq_true rfl) (by simp [mj_recv, jS_a (jrl_G G (k + 1 + 1)) hs2]) rfl (jp_dividesPoly (D := D + 2) (jrl_G G (k + 1 + 1)) (a := 9 + k) (b := 10 + k) (lc := W1 ((10 + k) * 13 + db)) (al := al) (be := be) (by omega) (by omega) (by omega) (by omega) (by omega) (by omega) hdb rfl hal hbe hbe1 hfit hs2) (fun v' h3 hq' => ?_) (fun i h' hq' => by obtain ⟨_, _, _, _, _, _, _, h⟩ := hq'; cases h)
    obtain ⟨W2, _, hs3, c1, c3, c2, c4, hq'⟩ := hq'
    cases hq'
    iterate 4 refine mj_T.pl rfl rfl rfl rfl ?_
    refine mj_T.iadd (a := ((10 + k : Nat) : Int)) (b := 1) rfl ?_
    rw [show ((10 + k : Nat) : Int) + 1 = ((10 + (k + 1) : Nat) : Int) by omega]
    refine mj_T.pl rfl rfl rfl rfl ?_
    refine mj_T.call (ins := .invokevirtual 124) rfl rfl (Nat.le_of_ble_eq_true rfl) (Nat.le_of_ble_eq_true rfl) (by simp [mj_recv, jS_a (jrl_G G (k + 1 + 1)) hs3]) rfl (jp_copiesPoly (D := D + 4) (jrl_G G (k + 1 + 1)) (p := 10 + (k + 1)) (q := 3) (by omega) (by omega) (by omega) hs3) (fun v' h4 hq' => ?_) (fun i h' hq' => by obtain ⟨_, _, h⟩ := hq'; cases h)
    obtain ⟨_, hs4, hq'⟩ := hq'
    cases hq'
    have f1 : ∀ e, e < 13 → jfl W2 (10 + (k + 1)) (fun e => W2 (3 * 13 + e)) 13 ((10 + (k + 1)) * 13 + e) = W2 (3 * 13 + e) := fun e he => jfl_at _ _ _ he
    have f2 : ∀ s, (s < (10 + (k + 1)) * 13 ∨ (10 + (k + 1)) * 13 + 13 ≤ s) → jfl W2 (10 + (k + 1)) (fun e => W2 (3 * 13 + e)) 13 s = W2 s := fun s hc => jfl_off _ _ _ hc
    generalize jfl W2 (10 + (k + 1)) (fun e => W2 (3 * 13 + e)) 13 = W3 at hs4 f1 f2
    have fin : ∀ (W4 : Nat → Int) (h5 : mj_H) (sg : Int) (e2 e3 e4 : Option Value), (sg = 1 ∨ sg = -1) → jS (jrl hp q0 fs (k + 1 + 1)) q1 q2 q3 W4 h5 → (∀ e, e < 13 → W4 ((10 + (k + 1)) * 13 + e) = sg * W2 (3 * 13 + e)) → (∀ s, (s < (10 + (k + 1)) * 13 ∨ (10 + (k + 1)) * 13 + 13 ≤ s) → W4 s = W2 s) → mj_T (D + 7) mj_m216 19 [some (.ref q0), some (.int (jn (a : Nat))), e2, e3, e4] [] h5 Q := by
      intro W4 h5 sg e2 e3 e4 hsg hs5 g1 g2
      have w1 : ∀ s, (s < 26 ∨ 52 ≤ s) → (s < (10 + (k + 1)) * 13 ∨ (10 + (k + 1)) * 13 + 13 ≤ s) → s ≠ 652 → s ≠ 654 → W4 s = W1 s := fun s x1 x2 x3 x4 => by rw [g2 s x2, c1 s x1 x3 x4]
      have w2 : jdg W4 (10 + (k + 1)) 13 ≤ db := jdg_of_zero fun e x1 x2 => by rw [g1 e x2, c2 e x1 x2, Int.mul_zero]
      have w3 : jpo W4 (10 + k) = jpo W1 (10 + k) := jpo_eq fun e he => w1 _ (by omega) (by omega) (by omega) (by omega)
      refine ih (k + 1) W4 h5 e2 e3 e4 (by omega) (by omega) hs5 (fun p p1 p2 => ?_) (fun y1 hy1 => ?_) (fun s x1 x2 x3 x4 x5 x6 x7 x8 => ?_)
      · by_cases hpk : p = 10 + k
        · subst hpk
          refine ⟨?_, fun e he => ?_⟩
          · exact jpo_ne (by rw [w3]; exact hne1)
          · rw [w1 _ (by omega) (by omega) (by omega) (by omega)]
            exact hyb e he
        · have r1 := hrow p p1 (by omega)
          have r2 : ∀ e, e < 13 → W4 (p * 13 + e) = W (p * 13 + e) := fun e he => by rw [w1 _ (by omega) (by omega) (by omega) (by omega), a2 _ (by omega) (by omega) (by omega) (by omega) (by omega) (by omega)]
          refine ⟨?_, fun e he => ?_⟩
          · rw [jdg_congr 13 r2]
            exact r1.1
          · rw [r2 e he]
            exact r1.2 e he
      · have t1 : jpo W4 (9 + (k + 1)) = jpo W1 (10 + k) := by rw [show 9 + (k + 1) = 10 + k by omega, w3]
        have t2 : jpo W4 (10 + (k + 1)) = pz_sc sg (jpo W2 3) := funext fun e => by
          by_cases he : e < 13
          · rw [jpo_at he, g1 e he]
            show _ = sg * jpo W2 3 e
            rw [jpo_at he]
          · show _ = sg * jpo W2 3 e
            unfold jpo
            rw [if_neg he, if_neg he, Int.mul_zero]
        rw [t1]
        rw [t2] at hy1
        have t3 : jpo W2 (10 + k) = jpo W1 (10 + k) := jpo_eq fun e he => c1 _ (by omega) (by omega) (by omega)
        refine klr_step hA.1 hf hg hfA hgA kq_rel_ex (jpo W1 (9 + k)) (jpo W1 (10 + k)) (jpo W2 2) (jpo W2 3) y1 db b2 hyl (by rw [ydb]; exact hlead) (Int.pow_ne_zero hlead) c3 (jpo_lt W2 2) (fun i hi => ?_) (kq_rel_sg hsg hy1)
        by_cases he : i < 13
        · rw [jpo_at he, c2 i hi he]
        · exact jpo_lt W2 3 i (by omega)
      · rw [w1 s x1 (by omega) x3 x5, a2 s (by omega) x3 x4 x6 x7 x8, hfr s x1 x2 x3 x4 x5 x6 x7 x8]
    have neg : mj_T (D + 7) mj_m216 109 [some (.ref q0), some (.int (jn (a : Nat))), some (.int (jn ((10 + k : Nat) : Int))), some (.int (jn (jsg (W1 ((10 + k) * 13 + db))))), some (.int (jn ((jdg W1 (9 + k) 13 - db : Nat) : Int)))] [] h4 Q := by
      iterate 3 refine mj_T.pl rfl rfl rfl rfl ?_
      refine mj_T.iadd (a := ((10 + k : Nat) : Int)) (b := 1) rfl ?_
      rw [show ((10 + k : Nat) : Int) + 1 = ((10 + (k + 1) : Nat) : Int) by omega]
      refine mj_T.call (ins := .invokevirtual 139) rfl rfl (Nat.le_of_ble_eq_true rfl) (Nat.le_of_ble_eq_true rfl) (by simp [mj_recv, jS_a (jrl_G G (k + 1 + 1)) hs4]) rfl (jp_negates (D := D + 4) (jrl_G G (k + 1 + 1)) (p := 10 + (k + 1)) (by omega) hs4) (fun v' h5 hq' => ?_) (fun i h' hq' => by obtain ⟨_, _, h⟩ := hq'; cases h)
      obtain ⟨_, hs5, hq'⟩ := hq'
      cases hq'
      refine mj_T.pl rfl rfl rfl rfl ?_
      exact fin _ _ (-1) _ _ _ (Or.inr rfl) hs5 (fun e he => by rw [jfl_at _ _ _ he, f1 e he]; omega) (fun s hc => by rw [jfl_off _ _ _ hc, f2 s hc])
    refine mj_T.pl rfl rfl rfl rfl ?_
    have hsg := jsg_range (W1 ((10 + k) * 13 + db))
    refine mj_T.if0 (a := jsg (W1 ((10 + k) * 13 + db))) rfl ⟨by omega, by omega⟩ (fun hc2 => ?_) (fun hc2 => ?_)
    · exact neg
    iterate 2 refine mj_T.pl rfl rfl rfl rfl ?_
    refine mj_T.irem (a := ((jdg W1 (9 + k) 13 - db : Nat) : Int)) (b := 2) rfl ⟨by omega, by omega⟩ ⟨by omega, by omega⟩ (by omega) ?_
    have ht : ((jdg W1 (9 + k) 13 - db : Nat) : Int).tmod 2 = (((jdg W1 (9 + k) 13 - db) % 2 : Nat) : Int) := rfl
    refine mj_T.if0 (a := ((jdg W1 (9 + k) 13 - db : Nat) : Int).tmod 2) rfl ⟨by omega, by omega⟩ (fun hc3 => ?_) (fun hc3 => ?_)
    · refine mj_T.pl rfl rfl rfl rfl ?_
      exact fin _ _ 1 _ _ _ (Or.inl rfl) hs4 (fun e he => by rw [f1 e he, Int.one_mul]) f2
    · exact neg
theorem jp_laysRow (G : jG hp q0 q1 q2 q3 fs) (h7 : 7 < fs.length) {A : Nat} (hA : kq_fit A) (hA2 : 13 * A < jB ^ 698) (ha : a < 9) (ha2 : a ≠ 2) (ha3 : a ≠ 3) (hne : jpo V a ≠ pz_0) (hVA : ∀ e, e < 13 → (V (a * 13 + e)).natAbs * 12 ≤ A) (hs : jS hp q1 q2 q3 V h) :
    mj_Ok (D + 8) 216 [.ref q0, .int (jn (a : Nat))] h (fun r => ∃ (k : Nat) (W : Nat → Int) (h' : mj_H), k ≤ 12 ∧ jS (jrl hp q0 fs (k + 1)) q1 q2 q3 W h' ∧ (∀ p, 9 ≤ p → p ≤ 9 + k → 1 ≤ jdg W p 13 ∧ ∀ e, e < 13 → (W (p * 13 + e)).natAbs ≤ kq_F A 24) ∧ (∀ s, (s < 26 ∨ 52 ≤ s) → (s < 117 ∨ 299 ≤ s) → s ≠ 652 → s ≠ 653 → s ≠ 654 → s ≠ 655 → s ≠ 663 → s ≠ 664 → W s = V s) ∧ (∀ e, e < 13 → W (9 * 13 + e) = V (a * 13 + e)) ∧ r = (.inl none, h')) := by
  refine mj_Ok.of (M := mj_m216) rfl rfl rfl ?_
  iterate 3 refine mj_T.pl rfl rfl rfl rfl ?_
  refine mj_T.call (ins := .invokevirtual 124) rfl rfl (Nat.le_of_ble_eq_true rfl) (Nat.le_of_ble_eq_true rfl) (by simp [mj_recv, jS_a G hs]) rfl (jp_copiesPoly (D := D + 4) G (p := 9) (q := a) (by decide) (by omega) (by omega) hs) (fun v' h1 hq' => ?_) (fun i h' hq' => by obtain ⟨_, _, h⟩ := hq'; cases h)
  obtain ⟨_, hs1, hq'⟩ := hq'
  cases hq'
  have a1 : ∀ e, e < 13 → jfl V 9 (fun e => V (a * 13 + e)) 13 (9 * 13 + e) = V (a * 13 + e) := fun e he => jfl_at _ 9 _ he
  have a2 : ∀ s, (s < 117 ∨ 130 ≤ s) → jfl V 9 (fun e => V (a * 13 + e)) 13 s = V s := fun s hc => jfl_off _ 9 _ (by omega)
  generalize jfl V 9 (fun e => V (a * 13 + e)) 13 = W1 at hs1 a1 a2
  iterate 2 refine mj_T.pl rfl rfl rfl rfl ?_
  refine mj_T.pfl rfl (jS_a G hs1) h7 rfl ?_
  have hs2 := jrl_first G 1 hs1
  refine mj_T.eq (h2 := h1.set q0 (.inr (10, fs.set 7 (.int (jn ((1 : Nat) : Int)))))) ?_ rfl rfl rfl rfl
  generalize h1.set q0 (.inr (10, fs.set 7 (.int (jn ((1 : Nat) : Int))))) = h2 at hs2
  iterate 3 refine mj_T.pl rfl rfl rfl rfl ?_
  refine mj_T.call (ins := .invokevirtual 149) rfl rfl (Nat.le_of_ble_eq_true rfl) (Nat.le_of_ble_eq_true rfl) (by simp [mj_recv, jS_a (jrl_G G 1) hs2]) rfl (jp_derives (D := D + 4) (V := W1) (jrl_G G 1) (p := 10) (a := a) (by decide) (by omega) (by omega) (fun e he => jnl_of_lt (M := 13 * A) (by rw [show a * 13 + e + 1 = a * 13 + (e + 1) by omega, a2 _ (by omega), Int.natAbs_mul]; have k1 := hVA (e + 1) (by omega); have k2 : (V (a * 13 + (e + 1))).natAbs * ((e + 1 : Nat) : Int).natAbs ≤ (V (a * 13 + (e + 1))).natAbs * 12 := Nat.mul_le_mul_left _ (by omega); omega) hA2) hs2) (fun v' h3 hq' => ?_) (fun i h' hq' => by obtain ⟨_, _, _, _, h⟩ := hq'; cases h)
  obtain ⟨W2, _, hs3, b1, hq'⟩ := hq'
  cases hq'
  have c1 : ∀ s, (s < 130 ∨ 143 ≤ s) → s ≠ 652 → W2 s = W1 s := fun s x1 x2 => by rw [b1 s x2, jfl_off _ 10 _ (by omega)]
  have c2 : ∀ e, e < 13 → W2 (10 * 13 + e) = if e < 12 then jdv W1 a e else 0 := fun e he => by rw [b1 _ (by omega), jfl_at _ 10 _ he]
  have c3 : ∀ e, e < 13 → (W2 (10 * 13 + e)).natAbs ≤ A := fun e he => by
    rw [c2 e he]
    split
    · show (W1 (a * 13 + e + 1) * ((e + 1 : Nat) : Int)).natAbs ≤ A
      rw [show a * 13 + e + 1 = a * 13 + (e + 1) by omega, a2 _ (by omega), Int.natAbs_mul]
      have k1 := hVA (e + 1) (by omega)
      have k2 : (V (a * 13 + (e + 1))).natAbs * ((e + 1 : Nat) : Int).natAbs ≤ (V (a * 13 + (e + 1))).natAbs * 12 := Nat.mul_le_mul_left _ (by omega)
      omega
    · exact Nat.zero_le _
  have c4 : ∀ e, e < 13 → W2 (9 * 13 + e) = V (a * 13 + e) := fun e he => by rw [c1 _ (by omega) (by omega), a1 e he]
  have c5 : jpo W2 9 = jpo V a := jpo_eq c4
  have c6 : ∀ e, e < 13 → (V (a * 13 + e)).natAbs ≤ A := fun e he => by have := hVA e he; omega
  have c7 : jdg W2 10 13 ≤ 12 := jdg_of_zero fun e x1 x2 => by rw [c2 e x2, if_neg (by omega)]
  refine jp_lr (D := D) (V := W2) (a := a) G h7 hA (f := jpo V a) (g := jpo W2 10) (jpo_lt _ _) (jpo_lt _ _) (jpo_le c6) (jpo_le c3) (fun k W h4 k1 k2 k3 k4 => ⟨k, W, h4, k1, k2, k3, fun s x1 x2 x3 x4 x5 x6 x7 x8 => by rw [k4 s x1 (by omega) x3 x4 x5 x6 x7 x8, c1 s (by omega) x3, a2 s (by omega)], fun e he => by rw [k4 _ (by omega) (by omega) (by omega) (by omega) (by omega) (by omega) (by omega) (by omega), c4 e he], rfl⟩) 13 0 W2 h3 _ _ _ (jdg_le _ _ _) (by show 0 + 1 + jdg W2 10 13 ≤ 13; omega) hs3 (fun p p1 p2 => ?_) (fun y1 hy => Or.inr ⟨c5, hy⟩) (fun s _ _ _ _ _ _ _ _ => rfl)
  have hp9 : p = 9 := by omega
  subst hp9
  refine ⟨jpo_ne (by rw [c5]; exact hne), fun e he => ?_⟩
  rw [c4 e he]
  exact Nat.le_trans (c6 e he) (kq_F_ge hA.1 (by decide))
end JLR
