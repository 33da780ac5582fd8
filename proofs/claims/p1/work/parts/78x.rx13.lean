/-! Numbers that are made; their digits. -/
section MGF
variable {D pc : Nat} {M : mj_M} {loc : mj_L} {st : List Value} {h : mj_H} {Q : mj_R → Prop} {n ci f a r3 r4 r5 : Nat}
/-- a field is read -/
theorem mj_T.gfl {fs : List Value} {v : Value} (hc : M.2.2.2.2.1 pc = some (.getfield n, ci, f, r3, r4, r5)) (ha : h[a]? = some (.inr (ci, fs))) (hf : fs[f]? = some v) (k : mj_T D M (pc + 3) loc (v :: st) h Q) : mj_T D M pc loc (.ref a :: st) h Q :=
  mj_T.step hc rfl (by simp only [mj_step, ha, hf, if_true]) k
end MGF
theorem mq_is0_of {ρ : Nat → Nat} {w : mq_W} (h : mq_is0 w = true) : mq_kn w = true ∧ mq_val ρ w = .int 0 := by
  match w, h with
  | .inl n, h =>
    have h : n = 0 := Nat.beq_eq.mp h
    subst h
    exact ⟨rfl, rfl⟩
  | .inr _, h => cases h
abbrev mq_lc (m : Nat) : mj_E := .inl (0, m, fun _ => .int 0)
/-- a cell and its limbs' cell come to be -/
theorem mq_Hr.make {ρ : Nat → Nat} {n a m : Nat} {t : mq_Ht} {h : mj_H} {c : mq_C} {e e0 : mj_E} {v : mq_N} (hr : mq_Hr ρ n t h) (ha : a < 1024) (hl0 : h[a]? = some e0) (h0 : mq_pl (mq_hg t a)) (hn : n < 1024) (hz : mj_slot e = mj_slot e0) (hm : m ≤ 700) (hw : c = mq_wide n m v ∨ c = mq_dvd n m v) (hc : mq_cr ρ ((h ++ [mq_lc m]).set a e) c e) : mq_Hr ρ (n + 1) (mq_hset (mq_hset t a c) n (mq_lim a)) ((h ++ [mq_lc m]).set a e) := by
  have hla : a < h.length := (List.getElem?_eq_some_iff.mp hl0).1
  have hlen := hr.len
  have hnn := hr.nil hn (Nat.le_refl n)
  have han : a ≠ n := by omega
  have hw1 := hr.wl.set ha c
  have hnl : ∀ x, mq_hg t a ≠ mq_lim x := fun x => mq_pl_lim h0 x
  have hn2 : ∀ x, mq_hg (mq_hset t a c) n ≠ mq_lim x := fun x q => by
    rw [mq_hg_set hr.wl c ha hn, if_neg (by omega), hnn] at q
    cases q
  have out : ∀ x, x ≠ a → x < h.length → ((h ++ [mq_lc m]).set a e)[x]? = h[x]? := fun x h1 h2 => by
    rw [List.getElem?_set_ne (by omega), List.getElem?_append_left h2]
  have atn : ((h ++ [mq_lc m]).set a e)[n]? = some (mq_lc m) := by
    rw [List.getElem?_set_ne (by omega), List.getElem?_append_right (by omega), hlen]
    simp
  have ata : ((h ++ [mq_lc m]).set a e)[a]? = some e := List.getElem?_set_self (by simp; omega)
  refine ⟨by simp [hlen], hn, hw1.set hn _, fun b hb => ?_, ?_⟩
  · rw [mq_hg_set hw1 _ hn hb]
    split
    · rename_i q
      subst q
      exact Or.inr ⟨trivial, _, atn, trivial⟩
    · rename_i q
      rw [mq_hg_set hr.wl c ha hb]
      split
      · rename_i q2
        subst q2
        refine Or.inr ⟨?_, e, ata, hc⟩
        have key : n < 1024 ∧ mq_hg (mq_hset (mq_hset t b c) n (mq_lim b)) n = mq_lim b := ⟨hn, by rw [mq_hg_set hw1 _ hn hn, if_pos rfl]⟩
        rcases hw with q3 | q3 <;> rw [q3] <;> rw [q3] at key <;> exact key
      · rename_i q2
        rcases hr.cell b hb with h1 | ⟨ho, e', h1, h2⟩
        · exact Or.inl h1
        · have hbl := (List.getElem?_eq_some_iff.mp h1).1
          refine Or.inr ⟨mq_ow_set hw1 hn hb (mq_ow_set hr.wl ha hb ho hnl) hn2, e', by rw [out b q2 hbl]; exact h1, mq_cr_keep h2 (fun x len v' hx => ?_)⟩
          have h3 := mq_ow_w ho hx
          have hxa : x ≠ a := fun q3 => hnl b (by rw [← q3]; exact h3.2)
          have hxn : x ≠ n := fun q3 => by rw [q3, hnn] at h3; cases h3.2
          by_cases hxl : x < h.length
          · exact out x hxa hxl
          · rw [List.getElem?_eq_none_iff.mpr (by simp; omega), List.getElem?_eq_none_iff.mpr (by omega)]
  · have s1 := mj_sl_set (h := h ++ [mq_lc m]) (k := a) (e' := e) (by rw [List.getElem?_append_left hla]; exact hl0) hz
    have h2 := hr.sl
    rw [s1, mj_sl_push]
    have e3 : mj_slot (mq_lc m) = m := rfl
    rw [e3]
    split at h2 <;> split <;> omega
theorem mq_newrow {D pc : Nat} {M : mj_M} {loc : mj_L} {st : List Value} {h : mj_H} {Q : mj_R → Prop} {r2 r3 r4 r5 m : Nat} {ty : ClassFile.ArrayType} (hc : M.2.2.2.2.1 pc = some (.newarray ty, 0, r2, r3, r4, r5)) (hm : m ≤ 700) (k : mj_T D M (pc + 2) loc (.ref h.length :: st) (h ++ [mq_lc m]) Q) : mj_T D M pc loc (.int (jn (m : Nat)) :: st) h Q := by
  have hr : jr (m : Int) := ⟨by omega, by omega⟩
  have h0 : (0 : Int32) ≤ jn (m : Nat) := by rw [show (0 : Int32) = jn 0 from rfl, jn_le ⟨by omega, by omega⟩ hr]; omega
  have hn : (jn (m : Nat)).toNatClampNeg = m := by rw [jn_nat (by omega) hr]; rfl
  refine mj_T.step hc rfl ?_ k
  simp only [mj_step, hn]
  rw [if_pos ⟨h0, by omega, by omega⟩]
  rfl
