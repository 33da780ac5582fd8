/-! The law's append and read around the class's. -/
section JLA
variable {n p0 q : Nat} {tm : Int} {h : mj_H} {K L : Nat → Nat} {R : Nat → Nat → Nat}
theorem jw_344 {D : Nat} {x1 x2 x3 x4 x5 : Int32} (ty : jTY K L R) (w : jLw K L R q n tm h) (kp0 : K p0 = 19) : mj_Ok (D + 4) 344 [.ref p0, .int x1, .int x2, .int x3, .int x4, .int x5, .ref q] h (fun r => (200 < tm + (jcn x1 x2 x3 x4 x5 20 : Int) ∧ r.1 = .inl (some (.int (jn 1))) ∧ jLw K L R q (n + 1) tm r.2 ∧ jLf K q h r.2) ∨ (tm + (jcn x1 x2 x3 x4 x5 20 : Int) ≤ 200 ∧ r.1 = .inl (some (.int (jn 0))) ∧ jLw K L R q n (tm + (jcn x1 x2 x3 x4 x5 20 : Int)) r.2 ∧ jLf K q h r.2 ∧ ∃ f : Nat → Value, f 0 = .long (jl (tm + (jcn x1 x2 x3 x4 x5 20 : Int))) ∧ r.2[q]? = some (.inl (1, 1, f)))) := by
  have hg : h.length ≤ n := Nat.le_of_eq w.1.1
  have ht := w.1.2.1
  refine mj_Ok.of (M := mj_m344) (loc := [some (.ref p0), some (.int x1), some (.int x2), some (.int x3), some (.int x4), some (.int x5), some (.ref q), none]) rfl rfl rfl ?_
  iterate 8 refine mj_T.pl rfl rfl rfl rfl ?_
  refine mj_T.call rfl rfl (Nat.le_of_ble_eq_true rfl) (Nat.le_of_ble_eq_true rfl) (jrv_of w.1 kp0 (by decide) rfl (by decide) rfl _) rfl (jc_141 (D := D) ty hg w.1 kp0) (fun v h1 hq => ?_) (fun i h1 hq => ?_)
  · rcases hq with ⟨_, hv, _⟩ | ⟨ha, hv, o1⟩
    · cases hv
    cases hv
    refine mj_T.eq (pc2 := 14) (st2 := [.int (jn (tm + (jcn x1 x2 x3 x4 x5 20 : Int))), .int (jn 0), .ref q]) ?_ rfl rfl rfl rfl
    refine mj_T.i2l rfl ⟨by omega, by omega⟩ ?_
    refine jW.last w o1 rfl (fun h2 w2 f2 hf => ?_)
    iterate 2 refine mj_T.pl rfl rfl rfl rfl ?_
    refine mj_T.ret rfl rfl rfl (Or.inr ⟨ha, rfl, w2, f2, ?_⟩)
    rcases hf with hf | hf
    · exact ⟨_, rfl, hf⟩
    · exact hf
  · rcases hq with ⟨ha, hv, o1⟩ | ⟨_, hv, _⟩
    · cases hv
      refine Or.inr ⟨7, 21, rfl, (Nat.le_of_ble_eq_true rfl), ?_⟩
      refine mj_T.pl rfl rfl rfl rfl ?_
      exact mj_T.ret rfl rfl rfl (Or.inl ⟨ha, rfl, w.thr o1, jLf.of o1⟩)
    · cases hv
theorem jw_322 {D : Nat} {p1 : Int} (ty : jTY K L R) (w : jLw K L R q n tm h) (kp0 : K p0 = 19) (rp1 : -2147483648 ≤ p1 ∧ p1 ≤ 2147483647) : mj_Ok (D + 57) 322 [.ref p0, .int (jn p1), .ref q] h (fun r => ∃ k : Int, r.1 = .inl (some (.int (jn k))) ∧ (∃ n', n ≤ n' ∧ n' ≤ n + 1 ∧ jLw K L R q n' (if 0 ≤ p1 ∧ p1 ≤ 5 then 0 else tm) r.2) ∧ jLf K q h r.2) := by
  have hg : h.length ≤ n := Nat.le_of_eq w.1.1
  refine mj_Ok.of (M := mj_m322) (loc := [some (.ref p0), some (.int (jn p1)), some (.ref q), none]) rfl rfl rfl ?_
  iterate 4 refine mj_T.pl rfl rfl rfl rfl ?_
  refine mj_T.call rfl rfl (Nat.le_of_ble_eq_true rfl) (Nat.le_of_ble_eq_true rfl) (jrv_of w.1 kp0 (by decide) rfl (by decide) rfl _) rfl (jc_114 (D := D) ty hg w.1 kp0 rp1) (fun v h1 hq => ?_) (fun i h1 hq => ?_)
  · rcases hq with ⟨_, hv, _⟩ | ⟨hp, ⟨z, hv, o1⟩ | ⟨_, _, hv, _⟩⟩
    · cases hv
    · cases hv
      refine mj_T.step rfl rfl rfl ?_
      refine jW.last w o1 rfl (fun h2 w2 f2 _ => ?_)
      iterate 2 refine mj_T.pl rfl rfl rfl rfl ?_
      exact mj_T.ret rfl rfl rfl ⟨0, rfl, ⟨n, by omega, by omega, by rw [if_pos hp]; exact w2⟩, f2⟩
    · cases hv
  · have fin : ∀ k : Int, ∀ t : Int, (if 0 ≤ p1 ∧ p1 ≤ 5 then 0 else tm) = t → jO K L R h (n + 1) t h1 → ∃ k2 : Int, ((Sum.inl (some (Value.int (jn k))) : Option Value ⊕ Nat)) = .inl (some (.int (jn k2))) ∧ (∃ n', n ≤ n' ∧ n' ≤ n + 1 ∧ jLw K L R q n' (if 0 ≤ p1 ∧ p1 ≤ 5 then 0 else tm) h1) ∧ jLf K q h h1 := fun k t e o1 => ⟨k, rfl, ⟨n + 1, by omega, by omega, by rw [e]; exact w.thr o1⟩, jLf.of o1⟩
    rcases hq with ⟨hp, hv, o1⟩ | ⟨hp, ⟨z, hv, o1⟩ | ⟨i2, hi, hv, o1⟩⟩
    · cases hv
      refine Or.inr ⟨3, 13, rfl, (Nat.le_of_ble_eq_true rfl), ?_⟩
      refine mj_T.pl rfl rfl rfl rfl ?_
      exact mj_T.ret rfl rfl rfl (fin 1 _ (if_neg hp) o1)
    · cases hv
    · cases hv
      simp only [List.mem_cons, List.not_mem_nil, or_false] at hi
      rcases hi with hi | hi | hi
      · subst hi
        refine Or.inr ⟨3, 13, rfl, (Nat.le_of_ble_eq_true rfl), ?_⟩
        refine mj_T.pl rfl rfl rfl rfl ?_
        exact mj_T.ret rfl rfl rfl (fin 1 _ (if_pos hp) o1)
      · subst hi
        refine Or.inr ⟨3, 16, rfl, (Nat.le_of_ble_eq_true rfl), ?_⟩
        refine mj_T.pl rfl rfl rfl rfl ?_
        exact mj_T.ret rfl rfl rfl (fin 2 _ (if_pos hp) o1)
      · subst hi
        refine Or.inr ⟨3, 19, rfl, (Nat.le_of_ble_eq_true rfl), ?_⟩
        refine mj_T.pl rfl rfl rfl rfl ?_
        exact mj_T.ret rfl rfl rfl (fin 3 _ (if_pos hp) o1)
end JLA
