theorem mj_K_app {a b : List mj_M} (ha : ∀ (j : Nat) (M : mj_M), a[j]? = some M → mj_okA mj_P mj_Thr M) (hb : ∀ (j : Nat) (M : mj_M), b[j]? = some M → mj_okA mj_P mj_Thr M) : ∀ (j : Nat) (M : mj_M), (a ++ b)[j]? = some M → mj_okA mj_P mj_Thr M := by
  intro j M h
  by_cases hj : j < a.length
  · rw [List.getElem?_append_left hj] at h
    exact ha j M h
  · rw [List.getElem?_append_right (by omega)] at h
    exact hb _ M h
theorem mj_thr_ok : (mj_Thr.all fun q => mj_thr q.1 q.2.1 q.2.2) = true := by decide +kernel
theorem mj_all : mj_okP2 mj_P mj_Thr := by
  refine ⟨fun q hq => List.all_eq_true.mp mj_thr_ok q hq, ?_⟩
  exact mj_K_app mj_K_0 (mj_K_app mj_K_1 (mj_K_app mj_K_2 (mj_K_app mj_K_3 (mj_K_app mj_K_4 (mj_K_app mj_K_5 (mj_K_6))))))
theorem mj_kL : mj_chk mj_P mj_Thr mj_mL.1 mj_mL.2.1 0 mj_lL = true := by decide +kernel
