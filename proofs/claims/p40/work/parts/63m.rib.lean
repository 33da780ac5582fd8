/-! The reference's polynomials: whether they fit, whether a product is too high. -/
def jib (V : Nat → Int) (p : Nat) : Nat → Nat
  | 0 => 1
  | k + 1 => if jib V p k = 0 then 0 else if jnl (V (p * 13 + k)).natAbs ≤ 2 then 1 else 0
theorem jib_le (V : Nat → Int) (p : Nat) : ∀ k, jib V p k ≤ 1
  | 0 => Nat.le_refl _
  | k + 1 => by unfold jib; (repeat' split) <;> omega
theorem jib_one {V : Nat → Int} {p : Nat} : ∀ k, jib V p k = 1 → ∀ e, e < k → jnl (V (p * 13 + e)).natAbs ≤ 2
  | 0, _, e, he => by omega
  | k + 1, h, e, he => by
    unfold jib at h
    split at h
    · omega
    · rename_i c
      split at h
      · rename_i c2
        by_cases q : e = k
        · rw [q]; exact c2
        · exact jib_one k (by have := jib_le V p k; omega) e (by omega)
      · omega
section JIB
variable {D : Nat} {hp h : mj_H} {q0 q1 q2 q3 : Nat} {fs : List Value} {V : Nat → Int} {p : Nat}
theorem jp_ib_loop (G : jG hp q0 q1 q2 q3 fs) (hp9 : p ≤ 50) (hlen : ∀ e, e < 13 → jnl (V (p * 13 + e)).natAbs ≤ 700) (hs : jS hp q1 q2 q3 V h) {Q : mj_R → Prop} (hend : Q (.inl (some (.int (jn (jib V p 13 : Nat)))), h)) :
    ∀ (d k : Nat), k + d = 13 → mj_T (D + 1) mj_m205 4 [some (.ref q0), some (.int (jn (p : Nat))), some (.int (jn (jib V p k : Nat))), some (.int (jn (k : Nat)))] [] h Q := by
  intro d
  induction d with
  | zero =>
    intro k hk
    have hk : k = 13 := by omega
    subst hk
    iterate 2 refine mj_T.pl rfl rfl rfl rfl ?_
    refine mj_T.icmp (a := ((13 : Nat) : Int)) (b := 13) rfl ⟨by decide, by decide⟩ ⟨by decide, by decide⟩ (fun hc => ?_) (fun hc => ?_)
    · have hl := jib_le V p 13
      generalize jib V p 13 = z at hl hend ⊢
      refine mj_T.pl rfl rfl rfl rfl ?_
      rcases (show z = 0 ∨ z = 1 by omega) with rfl | rfl
      · exact mj_T.ret rfl rfl rfl hend
      · exact mj_T.ret rfl rfl rfl hend
    · simp [jc] at hc
  | succ d ih =>
    intro k hk
    have hl := jib_le V p k
    have fin : ∀ y : Int, y = ((jib V p (k + 1) : Nat) : Int) → mj_T (D + 1) mj_m205 32 [some (.ref q0), some (.int (jn (p : Nat))), some (.int (jn (jib V p k : Nat))), some (.int (jn (k : Nat)))] [.int (jn y)] h Q := fun y hy => by
      subst hy
      refine mj_T.pl rfl rfl rfl rfl ?_
      refine mj_T.iinc (a := k) rfl rfl ?_
      refine mj_T.pl rfl rfl rfl rfl ?_
      exact ih (k + 1) (by omega)
    iterate 2 refine mj_T.pl rfl rfl rfl rfl ?_
    refine mj_T.icmp (a := (k : Int)) (b := 13) rfl ⟨by omega, by omega⟩ ⟨by decide, by decide⟩ (fun hc => ?_) (fun hc => ?_)
    · simp only [jc, decide_eq_true_eq] at hc
      omega
    refine mj_T.pl rfl rfl rfl rfl ?_
    refine mj_T.if0 (a := ((jib V p k : Nat) : Int)) rfl ⟨by omega, by omega⟩ (fun hc2 => ?_) (fun hc2 => ?_)
    · simp only [jc, decide_eq_true_eq] at hc2
      refine mj_T.pl rfl rfl rfl rfl ?_
      refine fin 0 ?_
      unfold jib
      rw [if_pos (by omega)]
      rfl
    · simp only [jc, decide_eq_false_iff_not] at hc2
      iterate 3 refine mj_T.pl rfl rfl rfl rfl ?_
      refine mj_T.call (ins := .invokestatic 104) rfl rfl (Nat.le_of_ble_eq_true rfl) (Nat.le_of_ble_eq_true rfl) rfl rfl (jq_slot (D := D) (p := p) (i := k)) (fun v' h' hq' => ?_) (fun i h' hq' => by cases hq')
      cases hq'
      refine mj_T.call (ins := .invokevirtual 52) rfl rfl (Nat.le_of_ble_eq_true rfl) (Nat.le_of_ble_eq_true rfl) (by simp [mj_recv, jS_a G hs]) rfl (jS_length (D := D) G (s := p * 13 + k) (by omega) hs) (fun v' h' hq' => ?_) (fun i h' hq' => by cases hq')
      cases hq'
      refine mj_T.pl rfl rfl rfl rfl ?_
      have hlk := hlen k (by omega)
      refine mj_T.icmp (a := ((jnl (V (p * 13 + k)).natAbs : Nat) : Int)) (b := 2) rfl ⟨by omega, by omega⟩ ⟨by decide, by decide⟩ (fun hc3 => ?_) (fun hc3 => ?_)
      · simp only [jc, decide_eq_true_eq] at hc3
        refine mj_T.pl rfl rfl rfl rfl ?_
        refine fin 0 ?_
        unfold jib
        rw [if_neg (by omega), if_neg (by omega)]
        rfl
      · simp only [jc, decide_eq_false_iff_not] at hc3
        iterate 2 refine mj_T.pl rfl rfl rfl rfl ?_
        refine fin 1 ?_
        unfold jib
        rw [if_neg (by omega), if_pos (by omega)]
        rfl
theorem jp_isInBounds (G : jG hp q0 q1 q2 q3 fs) (hp9 : p ≤ 50) (hlen : ∀ e, e < 13 → jnl (V (p * 13 + e)).natAbs ≤ 700) (hs : jS hp q1 q2 q3 V h) : mj_Ok (D + 2) 205 [.ref q0, .int (jn (p : Nat))] h (fun r => r = (.inl (some (.int (jn (jib V p 13 : Nat)))), h)) := by
  refine mj_Ok.of (M := mj_m205) rfl rfl rfl ?_
  iterate 4 refine mj_T.pl rfl rfl rfl rfl ?_
  exact jp_ib_loop (D := D) G hp9 hlen hs (Q := fun r => r = (.inl (some (.int (jn (jib V p 13 : Nat)))), h)) rfl 13 0 (by omega)
end JIB
