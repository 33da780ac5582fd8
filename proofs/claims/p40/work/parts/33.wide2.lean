/-! Wide: set. -/
theorem jw_set_loop {D n m k : Nat} {g0 : Int32} {s sg : Int} {q : Nat → Int32} (hn : n < 2147483648) (hm : m < 2147483648) (hk : k ≤ n ∧ k ≤ m) {Q : mj_R → Prop}
    (hend : ∀ (gi g : Nat → Int32) (l2 : Option Value), (∀ j, j < k → gi j = q j) → mj_T D mj_m87 52 [some (.ref 0), some (.ref 2), l2] [] [.inr (8, [.ref 1, .int (jn k), .int g0]), .inl (0, n, fun j => .int (gi j)), .inr (8, [.ref 3, .int (jn s), .int (jn sg)]), .inl (0, m, fun j => .int (q j))] Q) :
    ∀ (d i : Nat) (gi : Nat → Int32), i + d = k → (∀ j, j < i → gi j = q j) →
      mj_T D mj_m87 26 [some (.ref 0), some (.ref 2), some (.int (jn i))] [] [.inr (8, [.ref 1, .int (jn k), .int g0]), .inl (0, n, fun j => .int (gi j)), .inr (8, [.ref 3, .int (jn s), .int (jn sg)]), .inl (0, m, fun j => .int (q j))] Q := by
  intro d
  induction d with
  | zero =>
    intro i gi hid hg
    iterate 3 refine mj_T.pl rfl rfl rfl rfl ?_
    refine mj_T.icmp rfl ⟨by omega, by omega⟩ ⟨by omega, by omega⟩ (fun hc31 => ?_) (fun hc31 => ?_)
    · exact hend gi gi _ (fun j hj => hg j (by omega))
    · simp only [jc, decide_eq_false_iff_not] at hc31; omega
  | succ d ih =>
    intro i gi hid hg
    iterate 3 refine mj_T.pl rfl rfl rfl rfl ?_
    refine mj_T.icmp rfl ⟨by omega, by omega⟩ ⟨by omega, by omega⟩ (fun hc31 => ?_) (fun hc31 => ?_)
    · simp only [jc, decide_eq_true_eq] at hc31; omega
    · iterate 6 refine mj_T.pl rfl rfl rfl rfl ?_
      refine mj_T.iald rfl rfl ⟨by omega, by omega⟩ ⟨by omega, by omega⟩ ?_
      refine mj_T.iast rfl rfl ⟨by omega, by omega⟩ ⟨by omega, by omega⟩ ?_
      refine mj_T.iinc rfl rfl ?_
      refine mj_T.pl rfl rfl rfl rfl ?_
      refine ih (i + 1) (upd gi i (q i)) (by omega) (fun j hj => ?_)
      unfold upd
      split
      · rename_i h; rw [h]
      · exact hg j (by omega)
theorem jw_set {D n m s : Nat} {sg : Int} {s0 g0 : Int32} {g q : Nat → Int32} (hn : n < 2147483648) (hm : m < 2147483648) (hs : s ≤ m) :
    mj_Ok (D + 1) 87 [.ref 0, .ref 2] [.inr (8, [.ref 1, .int s0, .int g0]), .inl (0, n, fun j => .int (g j)), .inr (8, [.ref 3, .int (jn s), .int (jn sg)]), .inl (0, m, fun j => .int (q j))]
      (fun r => ∃ g' : Nat → Int32, (∀ j, j < min s n → g' j = q j) ∧ r = (.inl none, [.inr (8, [.ref 1, .int (jn ((min s n : Nat) : Int)), .int (jn (if min s n = 0 then 0 else sg))]), .inl (0, n, fun j => .int (g' j)), .inr (8, [.ref 3, .int (jn s), .int (jn sg)]), .inl (0, m, fun j => .int (q j))])) := by
  refine mj_Ok.of (M := mj_m87) rfl rfl rfl ?_
  iterate 5 refine mj_T.pl rfl rfl rfl rfl ?_
  refine mj_T.alen rfl rfl ?_
  iterate 2 refine mj_T.pl rfl rfl rfl rfl ?_
  refine mj_T.alen rfl rfl ?_
  refine mj_T.imin rfl rfl (Nat.le_of_ble_eq_true rfl) ⟨by omega, by omega⟩ ⟨by omega, by omega⟩ ?_
  refine mj_T.imin rfl rfl (Nat.le_of_ble_eq_true rfl) ⟨by omega, by omega⟩ ⟨by omega, by omega⟩ ?_
  rw [show min (s : Int) (min (n : Int) (m : Int)) = ((min s n : Nat) : Int) by omega]
  iterate 3 refine mj_T.pl rfl rfl rfl rfl ?_
  refine jw_set_loop (k := min s n) hn hm (by omega) (fun gi _ l2 hg => ?_) (min s n) 0 g (by omega) (fun j hj => by omega)
  have fin : ∀ z : Int, z = (if min s n = 0 then 0 else sg) → mj_T D mj_m87 68 [some (.ref 0), some (.ref 2), l2] [.int (jn z), .ref 0] [.inr (8, [.ref 1, .int (jn ((min s n : Nat) : Int)), .int g0]), .inl (0, n, fun j => .int (gi j)), .inr (8, [.ref 3, .int (jn s), .int (jn sg)]), .inl (0, m, fun j => .int (q j))]
      (fun r => ∃ g' : Nat → Int32, (∀ j, j < min s n → g' j = q j) ∧ r = (.inl none, [.inr (8, [.ref 1, .int (jn ((min s n : Nat) : Int)), .int (jn (if min s n = 0 then 0 else sg))]), .inl (0, n, fun j => .int (g' j)), .inr (8, [.ref 3, .int (jn s), .int (jn sg)]), .inl (0, m, fun j => .int (q j))])) := by
    intro z hz
    subst hz
    refine mj_T.pl rfl rfl rfl rfl ?_
    exact mj_T.ret rfl rfl rfl ⟨gi, hg, rfl⟩
  iterate 3 refine mj_T.pl rfl rfl rfl rfl ?_
  refine mj_T.if0 rfl ⟨by omega, by omega⟩ (fun hc57 => ?_) (fun hc57 => ?_)
  · simp only [jc, Bool.not_eq_true', decide_eq_false_iff_not] at hc57
    iterate 2 refine mj_T.pl rfl rfl rfl rfl ?_
    exact fin sg (by rw [if_neg (by omega)])
  · simp only [jc, Bool.not_eq_false', decide_eq_true_eq] at hc57
    iterate 2 refine mj_T.pl rfl rfl rfl rfl ?_
    exact fin 0 (by rw [if_pos (by omega)])
