theorem mj_K_app {a b : List mj_M} (ha : ∀ (j : Nat) (M : mj_M), a[j]? = some M → mj_okA mj_P mj_Thr M) (hb : ∀ (j : Nat) (M : mj_M), b[j]? = some M → mj_okA mj_P mj_Thr M) : ∀ (j : Nat) (M : mj_M), (a ++ b)[j]? = some M → mj_okA mj_P mj_Thr M := by
  intro j M h
  by_cases hj : j < a.length
  · rw [List.getElem?_append_left hj] at h
    exact ha j M h
  · rw [List.getElem?_append_right (by omega)] at h
    exact hb _ M h
theorem mj_thr_ok : (mj_Thr.all fun q => mj_thr q.1 q.2.1 q.2.2) = true := by decide +kernel
theorem mj_all : mj_okP2 mj_P mj_Thr := by
  refine ⟨fun q hq => List.all_eq_true.mp mj_thr_ok q hq, ?_⟩
  exact mj_K_app mj_K_0 (mj_K_app mj_K_1 (mj_K_app mj_K_2 (mj_K_app mj_K_3 (mj_K_app mj_K_4 (mj_K_app mj_K_5 (mj_K_6))))))
theorem mj_chk_app {P : List mj_M} {thr : List (String × Nat × Nat)} {y : MethodName} {cc : ByteArray} : ∀ {a b : List (Option mj_I)} {o : Nat} (n : Nat), a.length = n → mj_chk P thr y cc o a = true → mj_chk P thr y cc (o + n) b = true → mj_chk P thr y cc o (a ++ b) = true
  | [], b, o, n, hn, _, h => by subst hn; exact h
  | none :: t, b, o, n, hn, h1, h => by
    subst hn
    exact mj_chk_app (a := t) (o := o + 1) t.length rfl h1 (by rw [show o + 1 + t.length = o + (none :: t).length by simp; omega]; exact h)
  | some J :: t, b, o, n, hn, h1, h => by
    subst hn
    simp only [mj_chk, Bool.and_eq_true] at h1
    show (mj_okX P thr y cc o J && mj_chk P thr y cc (o + 1) (t ++ b)) = true
    rw [h1.1, Bool.true_and]
    exact mj_chk_app (a := t) (o := o + 1) t.length rfl h1.2 (by rw [show o + 1 + t.length = o + (some J :: t).length by simp; omega]; exact h)
theorem mj_kL_0 : mj_chk mj_P mj_Thr mj_mL.1 mj_mL.2.1 0 mj_lL_0 = true := mj_chkL_of (bs := mj_mL.2.1.data.toList.drop 0) rfl (by decide +kernel)
theorem mj_kL_1 : mj_chk mj_P mj_Thr mj_mL.1 mj_mL.2.1 120 mj_lL_1 = true := mj_chkL_of (bs := mj_mL.2.1.data.toList.drop 120) rfl (by decide +kernel)
theorem mj_kL_2 : mj_chk mj_P mj_Thr mj_mL.1 mj_mL.2.1 240 mj_lL_2 = true := mj_chkL_of (bs := mj_mL.2.1.data.toList.drop 240) rfl (by decide +kernel)
theorem mj_kL_3 : mj_chk mj_P mj_Thr mj_mL.1 mj_mL.2.1 360 mj_lL_3 = true := mj_chkL_of (bs := mj_mL.2.1.data.toList.drop 360) rfl (by decide +kernel)
theorem mj_kL_4 : mj_chk mj_P mj_Thr mj_mL.1 mj_mL.2.1 480 mj_lL_4 = true := mj_chkL_of (bs := mj_mL.2.1.data.toList.drop 480) rfl (by decide +kernel)
theorem mj_kL_5 : mj_chk mj_P mj_Thr mj_mL.1 mj_mL.2.1 600 mj_lL_5 = true := mj_chkL_of (bs := mj_mL.2.1.data.toList.drop 600) rfl (by decide +kernel)
theorem mj_kL_6 : mj_chk mj_P mj_Thr mj_mL.1 mj_mL.2.1 720 mj_lL_6 = true := mj_chkL_of (bs := mj_mL.2.1.data.toList.drop 720) rfl (by decide +kernel)
theorem mj_kL_7 : mj_chk mj_P mj_Thr mj_mL.1 mj_mL.2.1 840 mj_lL_7 = true := mj_chkL_of (bs := mj_mL.2.1.data.toList.drop 840) rfl (by decide +kernel)
theorem mj_kL_8 : mj_chk mj_P mj_Thr mj_mL.1 mj_mL.2.1 960 mj_lL_8 = true := mj_chkL_of (bs := mj_mL.2.1.data.toList.drop 960) rfl (by decide +kernel)
theorem mj_kL_9 : mj_chk mj_P mj_Thr mj_mL.1 mj_mL.2.1 1080 mj_lL_9 = true := mj_chkL_of (bs := mj_mL.2.1.data.toList.drop 1080) rfl (by decide +kernel)
theorem mj_kL_10 : mj_chk mj_P mj_Thr mj_mL.1 mj_mL.2.1 1200 mj_lL_10 = true := mj_chkL_of (bs := mj_mL.2.1.data.toList.drop 1200) rfl (by decide +kernel)
theorem mj_kL_11 : mj_chk mj_P mj_Thr mj_mL.1 mj_mL.2.1 1320 mj_lL_11 = true := mj_chkL_of (bs := mj_mL.2.1.data.toList.drop 1320) rfl (by decide +kernel)
theorem mj_kL_12 : mj_chk mj_P mj_Thr mj_mL.1 mj_mL.2.1 1440 mj_lL_12 = true := mj_chkL_of (bs := mj_mL.2.1.data.toList.drop 1440) rfl (by decide +kernel)
theorem mj_kL_13 : mj_chk mj_P mj_Thr mj_mL.1 mj_mL.2.1 1560 mj_lL_13 = true := mj_chkL_of (bs := mj_mL.2.1.data.toList.drop 1560) rfl (by decide +kernel)
theorem mj_kL_14 : mj_chk mj_P mj_Thr mj_mL.1 mj_mL.2.1 1680 mj_lL_14 = true := mj_chkL_of (bs := mj_mL.2.1.data.toList.drop 1680) rfl (by decide +kernel)
theorem mj_kL_15 : mj_chk mj_P mj_Thr mj_mL.1 mj_mL.2.1 1800 mj_lL_15 = true := mj_chkL_of (bs := mj_mL.2.1.data.toList.drop 1800) rfl (by decide +kernel)
theorem mj_kL_16 : mj_chk mj_P mj_Thr mj_mL.1 mj_mL.2.1 1920 mj_lL_16 = true := mj_chkL_of (bs := mj_mL.2.1.data.toList.drop 1920) rfl (by decide +kernel)
theorem mj_kL_17 : mj_chk mj_P mj_Thr mj_mL.1 mj_mL.2.1 2040 mj_lL_17 = true := mj_chkL_of (bs := mj_mL.2.1.data.toList.drop 2040) rfl (by decide +kernel)
theorem mj_kL : mj_chk mj_P mj_Thr mj_mL.1 mj_mL.2.1 0 mj_lL = true :=
  mj_chk_app 120 (by decide) mj_kL_0 (mj_chk_app 120 (by decide) mj_kL_1 (mj_chk_app 120 (by decide) mj_kL_2 (mj_chk_app 120 (by decide) mj_kL_3 (mj_chk_app 120 (by decide) mj_kL_4 (mj_chk_app 120 (by decide) mj_kL_5 (mj_chk_app 120 (by decide) mj_kL_6 (mj_chk_app 120 (by decide) mj_kL_7 (mj_chk_app 120 (by decide) mj_kL_8 (mj_chk_app 120 (by decide) mj_kL_9 (mj_chk_app 120 (by decide) mj_kL_10 (mj_chk_app 120 (by decide) mj_kL_11 (mj_chk_app 120 (by decide) mj_kL_12 (mj_chk_app 120 (by decide) mj_kL_13 (mj_chk_app 120 (by decide) mj_kL_14 (mj_chk_app 120 (by decide) mj_kL_15 (mj_chk_app 120 (by decide) mj_kL_16 (mj_kL_17)))))))))))))))))
