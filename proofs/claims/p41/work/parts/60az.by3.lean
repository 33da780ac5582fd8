/-! Of the reference and of numbers (as in p1, part 78z). -/
def jbx (x1 x2 x3 x4 x5 : Int32) (k : Nat) : Int32 := if k < 4 then x1 else if k < 8 then x2 else if k < 12 then x3 else if k < 16 then x4 else x5
def jcn (x1 x2 x3 x4 x5 : Int32) : Nat → Nat
  | 0 => 0
  | k + 1 => jcn x1 x2 x3 x4 x5 k + (if jbk x1 x2 x3 x4 x5 k = 0 then 0 else 1)
theorem jcn_le (x1 x2 x3 x4 x5 : Int32) : ∀ k, jcn x1 x2 x3 x4 x5 k ≤ k
  | 0 => Nat.le_refl 0
  | k + 1 => by
    have := jcn_le x1 x2 x3 x4 x5 k
    show jcn x1 x2 x3 x4 x5 k + (if jbk x1 x2 x3 x4 x5 k = 0 then 0 else 1) ≤ k + 1
    split <;> omega
section MRA
variable {D : Nat} {h : mj_H} {a : Nat} {x1 x2 x3 x4 x5 : Int32} {Q : mj_R → Prop}
theorem jb_count {fs0 : List Value} {l8 : Option Value} (hA : h[a]? = some (.inr (10, fs0))) (K : mj_T (D + 1) mj_m285 50 [some (.ref a), some (.int x1), some (.int x2), some (.int x3), some (.int x4), some (.int x5), some (.int (jn (jcn x1 x2 x3 x4 x5 20 : Nat))), some (.int (jn (20 : Nat))), l8] [] h Q) : ∀ m k : Nat, k + m = 20 → mj_T (D + 1) mj_m285 11 [some (.ref a), some (.int x1), some (.int x2), some (.int x3), some (.int x4), some (.int x5), some (.int (jn (jcn x1 x2 x3 x4 x5 k : Nat))), some (.int (jn (k : Nat))), l8] [] h Q
  | 0, k, hk => by
    have e : k = 20 := by omega
    subst e
    iterate 2 refine mj_T.pl rfl rfl rfl rfl ?_
    refine mj_T.icmp (a := ((20 : Nat) : Int)) (b := 20) rfl ⟨by decide, by decide⟩ ⟨by decide, by decide⟩ (fun hc => K) (fun hc => ?_)
    simp only [jc, decide_eq_false_iff_not] at hc; omega
  | m + 1, k, hk => by
    have hb := jb_byt_lt (jbx x1 x2 x3 x4 x5 k) (3 - k % 4)
    have hb : jbk x1 x2 x3 x4 x5 k < 256 := hb
    iterate 2 refine mj_T.pl rfl rfl rfl rfl ?_
    refine mj_T.icmp (a := (k : Int)) (b := 20) rfl ⟨by omega, by omega⟩ ⟨by decide, by decide⟩ (fun hc => ?_) (fun hc => ?_)
    · simp only [jc, decide_eq_true_eq] at hc; omega
    clear hc
    iterate 8 refine mj_T.pl rfl rfl rfl rfl ?_
    refine mj_T.call (ins := .invokevirtual 344) rfl rfl (Nat.le_of_ble_eq_true rfl) (Nat.le_of_ble_eq_true rfl) (by simp [mj_recv, hA]) rfl (jb_of (D := D) (a := a) (x1 := x1) (x2 := x2) (x3 := x3) (x4 := x4) (x5 := x5) (show k < 20 by omega)) (fun v' h' hq' => ?_) (fun i h' hq' => by cases hq')
    cases hq'
    have fin : ∀ y : Nat, y = (if jbk x1 x2 x3 x4 x5 k = 0 then 0 else 1) → mj_T (D + 1) mj_m285 41 [some (.ref a), some (.int x1), some (.int x2), some (.int x3), some (.int x4), some (.int x5), some (.int (jn (jcn x1 x2 x3 x4 x5 k : Nat))), some (.int (jn (k : Nat))), l8] [.int (jn (y : Nat)), .int (jn (jcn x1 x2 x3 x4 x5 k : Nat))] h Q := fun y hy => by
      subst hy
      refine mj_T.iadd (a := (jcn x1 x2 x3 x4 x5 k : Nat)) rfl ?_
      refine mj_T.pl rfl rfl rfl rfl ?_
      refine mj_T.iinc (a := (k : Int)) rfl rfl ?_
      refine mj_T.pl rfl rfl rfl rfl ?_
      exact jb_count hA K m (k + 1) (by omega)
    refine mj_T.if0 (a := ((jbk x1 x2 x3 x4 x5 k : Nat) : Int)) rfl ⟨by omega, by omega⟩ (fun hc => ?_) (fun hc => ?_)
    · simp only [jc, decide_eq_true_eq] at hc
      refine mj_T.pl rfl rfl rfl rfl ?_
      exact fin 0 (by rw [if_pos (by omega)])
    · simp only [jc, decide_eq_false_iff_not] at hc
      iterate 2 refine mj_T.pl rfl rfl rfl rfl ?_
      exact fin 1 (by rw [if_neg (by omega)])
theorem jt_same {α : Type} {l : List α} {i : Nat} {x : α} (h : l[i]? = some x) : l.set i x = l := by
  apply List.ext_getElem?
  intro j
  by_cases e : i = j
  · subst e; rw [List.getElem?_set_self (List.getElem?_eq_some_iff.mp h).1, h]
  · rw [List.getElem?_set_ne e]
abbrev jtR (h : mj_H) (a ar N : Nat) (fs : List Value) (p : Nat) (f : Nat → Value) : mj_H := (h.set a (.inr (10, fs.set 9 (.int (jn (p : Nat)))))).set ar (.inl (0, N, f))
abbrev jtD (h : mj_H) (a ar : Nat) (fs : List Value) : Prop := fs[8]? = some (.ref ar) ∧ 9 < fs.length ∧ a ≠ ar ∧ a < h.length ∧ ar < h.length
variable {ar N p : Nat} {fs : List Value} {f : Nat → Value}
theorem jtR_a (C : jtD h a ar fs) : (jtR h a ar N fs p f)[a]? = some (.inr (10, fs.set 9 (.int (jn (p : Nat))))) := by
  rw [List.getElem?_set_ne (Ne.symm C.2.2.1), List.getElem?_set_self C.2.2.2.1]
theorem jtR_8 (C : jtD h a ar fs) {v : Value} : (fs.set 9 v)[8]? = some (.ref ar) := by rw [List.getElem?_set_ne (by decide)]; exact C.1
theorem jtR_9 (C : jtD h a ar fs) {v : Value} : (fs.set 9 v)[9]? = some v := List.getElem?_set_self C.2.1
theorem jtR_set (C : jtD h a ar fs) {q : Nat} : (jtR h a ar N fs p f).set a (.inr (10, (fs.set 9 (.int (jn (p : Nat)))).set 9 (.int (jn (q : Nat))))) = jtR h a ar N fs q f := by
  rw [List.set_set, List.set_comm _ _ (Ne.symm C.2.2.1), List.set_set]
set_option maxRecDepth 100000 in
theorem jb_write (C : jtD h a ar fs) (hN : 20 ≤ N) (hN2 : N ≤ 1000000) {c : Nat} (K : ∀ (f : Nat → Value) (l8 : Option Value), mj_T (D + 1) mj_m285 129 [some (.ref a), some (.int x1), some (.int x2), some (.int x3), some (.int x4), some (.int x5), some (.int (jn (c : Nat))), some (.int (jn (20 : Nat))), l8] [] (jtR h a ar N fs (jcn x1 x2 x3 x4 x5 20) f) Q) : ∀ (m k : Nat) (f : Nat → Value) (l8 : Option Value), k + m = 20 → mj_T (D + 1) mj_m285 72 [some (.ref a), some (.int x1), some (.int x2), some (.int x3), some (.int x4), some (.int x5), some (.int (jn (c : Nat))), some (.int (jn (k : Nat))), l8] [] (jtR h a ar N fs (jcn x1 x2 x3 x4 x5 k) f) Q
  | 0, k, f, l8, hk => by
    have e : k = 20 := by omega
    subst e
    iterate 2 refine mj_T.pl rfl rfl rfl rfl ?_
    refine mj_T.icmp (a := ((20 : Nat) : Int)) (b := 20) rfl ⟨by decide, by decide⟩ ⟨by decide, by decide⟩ (fun hc => K f l8) (fun hc => ?_)
    simp only [jc, decide_eq_false_iff_not] at hc; omega
  | m + 1, k, f, l8, hk => by
    have hb : jbk x1 x2 x3 x4 x5 k < 256 := jb_byt_lt (jbx x1 x2 x3 x4 x5 k) (3 - k % 4)
    have hle := jcn_le x1 x2 x3 x4 x5 k
    have hA : (jtR h a ar N fs (jcn x1 x2 x3 x4 x5 k) f)[a]? = some (.inr (10, fs.set 9 (.int (jn (jcn x1 x2 x3 x4 x5 k : Nat))))) := jtR_a C
    iterate 2 refine mj_T.pl rfl rfl rfl rfl ?_
    refine mj_T.icmp (a := (k : Int)) (b := 20) rfl ⟨by omega, by omega⟩ ⟨by decide, by decide⟩ (fun hc => ?_) (fun hc => ?_)
    · simp only [jc, decide_eq_true_eq] at hc; omega
    clear hc
    iterate 7 refine mj_T.pl rfl rfl rfl rfl ?_
    refine mj_T.call (ins := .invokevirtual 344) rfl rfl (Nat.le_of_ble_eq_true rfl) (Nat.le_of_ble_eq_true rfl) (by simp [mj_recv, hA]) rfl (jb_of (D := D) (a := a) (x1 := x1) (x2 := x2) (x3 := x3) (x4 := x4) (x5 := x5) (show k < 20 by omega)) (fun v' h' hq' => ?_) (fun i h' hq' => by cases hq')
    cases hq'
    iterate 2 refine mj_T.pl rfl rfl rfl rfl ?_
    have fin : ∀ (y : Nat) (f' : Nat → Value), y = jcn x1 x2 x3 x4 x5 k + (if jbk x1 x2 x3 x4 x5 k = 0 then 0 else 1) → mj_T (D + 1) mj_m285 123 [some (.ref a), some (.int x1), some (.int x2), some (.int x3), some (.int x4), some (.int x5), some (.int (jn (c : Nat))), some (.int (jn (k : Nat))), some (.int (jn (jbk x1 x2 x3 x4 x5 k : Nat)))] [] (jtR h a ar N fs y f') Q := fun y f' hy => by
      subst hy
      refine mj_T.iinc (a := (k : Int)) rfl rfl ?_
      refine mj_T.pl rfl rfl rfl rfl ?_
      exact jb_write C hN hN2 K m (k + 1) f' _ (by omega)
    refine mj_T.if0 (a := ((jbk x1 x2 x3 x4 x5 k : Nat) : Int)) rfl ⟨by omega, by omega⟩ (fun hc => ?_) (fun hc => ?_)
    · simp only [jc, Bool.not_eq_true', decide_eq_false_iff_not] at hc
      refine mj_T.pl rfl rfl rfl rfl ?_
      refine mj_T.gfl rfl hA (jtR_8 C) ?_
      refine mj_T.pl rfl rfl rfl rfl ?_
      refine mj_T.gfl rfl hA (jtR_9 C) ?_
      refine mj_T.pl rfl rfl rfl rfl ?_
      refine mj_T.vst (by rw [List.length_set]; exact C.2.2.2.2) rfl ⟨by omega, by omega⟩ ⟨by omega, by omega⟩ ?_
      have hA2 : ∀ f', (jtR h a ar N fs (jcn x1 x2 x3 x4 x5 k) f')[a]? = some (.inr (10, fs.set 9 (.int (jn (jcn x1 x2 x3 x4 x5 k : Nat))))) := fun f' => jtR_a C
      iterate 2 refine mj_T.pl rfl rfl rfl rfl ?_
      refine mj_T.gfl rfl (hA2 _) (jtR_9 C) ?_
      refine mj_T.pl rfl rfl rfl rfl ?_
      refine mj_T.iadd (a := ((jcn x1 x2 x3 x4 x5 k : Nat) : Int)) (b := 1) rfl ?_
      have hlen : 9 < (fs.set 9 (.int (jn (jcn x1 x2 x3 x4 x5 k : Nat)))).length := by rw [List.length_set]; exact C.2.1
      refine mj_T.step (loc' := [some (.ref a), some (.int x1), some (.int x2), some (.int x3), some (.int x4), some (.int x5), some (.int (jn (c : Nat))), some (.int (jn (k : Nat))), some (.int (jn (jbk x1 x2 x3 x4 x5 k : Nat)))]) (st' := []) (h' := (jtR h a ar N fs (jcn x1 x2 x3 x4 x5 k) (updV f ((jcn x1 x2 x3 x4 x5 k : Nat) : Int).toNat (.int (jn (jbk x1 x2 x3 x4 x5 k : Nat))))).set a (.inr (10, (fs.set 9 (.int (jn (jcn x1 x2 x3 x4 x5 k : Nat)))).set 9 (.int (jn ((jcn x1 x2 x3 x4 x5 k + 1 : Nat) : Nat)))))) (pc' := 123) rfl rfl (by simp only [mj_step, hA2, hlen, true_and]; rfl) ?_
      rw [jtR_set C]
      exact fin _ _ (by rw [if_neg (by omega)])
    · simp only [jc, Bool.not_eq_false', decide_eq_true_eq] at hc
      refine mj_T.pl rfl rfl rfl rfl ?_
      exact fin _ f (by rw [if_pos (by omega)]; rfl)
set_option maxRecDepth 100000 in
theorem jq_append {fs0 : List Value} (hA : h[a]? = some (.inr (10, fs0))) (h8 : fs0[8]? = some (.ref ar)) (h9 : fs0[9]? = some (.int (jn (0 : Nat)))) (hR : h[ar]? = some (.inl (0, N, f))) (hN : 20 ≤ N) (hN2 : N ≤ 1000000) (hne : a ≠ ar) : mj_Ok (D + 2) 285 [.ref a, .int x1, .int x2, .int x3, .int x4, .int x5] h (fun r => ∃ f', r = (.inl (some (.int (jn (jcn x1 x2 x3 x4 x5 20 : Nat)))), jtR h a ar N (fs0.set 3 (.int (jn (0 : Nat)))) (jcn x1 x2 x3 x4 x5 20) f')) := by
  have l9 := (List.getElem?_eq_some_iff.mp h9).1
  have la := (List.getElem?_eq_some_iff.mp hA).1
  have lr := (List.getElem?_eq_some_iff.mp hR).1
  have C : jtD h a ar (fs0.set 3 (.int (jn (0 : Nat)))) := ⟨by rw [List.getElem?_set_ne (by decide)]; exact h8, by rw [List.length_set]; exact l9, hne, la, lr⟩
  have e1 : h.set a (.inr (10, fs0.set 3 (.int (jn (0 : Nat))))) = jtR h a ar N (fs0.set 3 (.int (jn (0 : Nat)))) 0 f := by
    have e9 : (fs0.set 3 (.int (jn (0 : Nat)))).set 9 (.int (jn (0 : Nat))) = fs0.set 3 (.int (jn (0 : Nat))) := jt_same (by rw [List.getElem?_set_ne (by decide)]; exact h9)
    show _ = (h.set a (.inr (10, (fs0.set 3 (.int (jn (0 : Nat)))).set 9 (.int (jn (0 : Nat)))))).set ar (.inl (0, N, f))
    rw [e9, jt_same (l := h.set a _) (i := ar) (by rw [List.getElem?_set_ne hne]; exact hR)]
  have hle := jcn_le x1 x2 x3 x4 x5 20
  refine mj_Ok.of (M := mj_m285) rfl rfl rfl ?_
  iterate 2 refine mj_T.pl rfl rfl rfl rfl ?_
  have hl3 : 3 < fs0.length := by omega
  refine mj_T.step (loc' := mj_loc0 9 [.ref a, .int x1, .int x2, .int x3, .int x4, .int x5]) (st' := []) (h' := h.set a (.inr (10, fs0.set 3 (.int (jn (0 : Nat)))))) (pc' := 5) rfl rfl (by simp only [mj_step, hA, hl3, true_and]; rfl) ?_
  rw [e1]
  iterate 4 refine mj_T.pl rfl rfl rfl rfl ?_
  refine jb_count (l8 := none) (jtR_a C) ?_ 20 0 (by decide)
  refine mj_T.pl rfl rfl rfl rfl ?_
  refine mj_T.gfl rfl (jtR_a C) (jtR_9 C) ?_
  refine mj_T.pl rfl rfl rfl rfl ?_
  refine mj_T.iadd (a := ((0 : Nat) : Int)) (b := ((jcn x1 x2 x3 x4 x5 20 : Nat) : Int)) rfl ?_
  refine mj_T.pl rfl rfl rfl rfl ?_
  refine mj_T.icmp (b := 200) rfl ⟨by omega, by omega⟩ ⟨by decide, by decide⟩ (fun hc => ?_) (fun hc => ?_)
  · iterate 2 refine mj_T.pl rfl rfl rfl rfl ?_
    refine jb_write (c := jcn x1 x2 x3 x4 x5 20) C hN hN2 (fun f' l8 => ?_) 20 0 f none (by decide)
    refine mj_T.pl rfl rfl rfl rfl ?_
    refine mj_T.gfl rfl (jtR_a C) (jtR_9 C) ?_
    exact mj_T.ret rfl rfl rfl ⟨f', rfl⟩
  · simp only [jc, decide_eq_false_iff_not] at hc; omega
end MRA

