/-! The kernel checks the table: each instruction against the bytes and the tables' words. -/
theorem mj_k0 : mj_chkM mj_m0 mj_l0 = true := (by first | exact mj_chkR_of (i := 143) rfl rfl (by decide +kernel) | exact mj_chkN_of (by decide +kernel))
theorem mj_k1 : mj_chkM mj_m1 mj_l1 = true := (by first | exact mj_chkR_of (i := 412) rfl rfl (by decide +kernel) | exact mj_chkN_of (by decide +kernel))
theorem mj_k2 : mj_chkM mj_m2 mj_l2 = true := (by first | exact mj_chkR_of (i := 482) rfl rfl (by decide +kernel) | exact mj_chkN_of (by decide +kernel))
theorem mj_k3 : mj_chkM mj_m3 mj_l3 = true := (by first | exact mj_chkR_of (i := 497) rfl rfl (by decide +kernel) | exact mj_chkN_of (by decide +kernel))
theorem mj_k4 : mj_chkM mj_m4 mj_l4 = true := (by first | exact mj_chkR_of (i := 1165) rfl rfl (by decide +kernel) | exact mj_chkN_of (by decide +kernel))
theorem mj_k5 : mj_chkM mj_m5 mj_l5 = true := (by first | exact mj_chkR_of (i := 489) rfl rfl (by decide +kernel) | exact mj_chkN_of (by decide +kernel))
theorem mj_k6 : mj_chkM mj_m6 mj_l6 = true := (by first | exact mj_chkR_of (i := 493) rfl rfl (by decide +kernel) | exact mj_chkN_of (by decide +kernel))
theorem mj_k7 : mj_chkM mj_m7 mj_l7 = true := (by first | exact mj_chkR_of (i := 1181) rfl rfl (by decide +kernel) | exact mj_chkN_of (by decide +kernel))
theorem mj_k8 : mj_chkM mj_m8 mj_l8 = true := (by first | exact mj_chkR_of (i := 1177) rfl rfl (by decide +kernel) | exact mj_chkN_of (by decide +kernel))
theorem mj_k9 : mj_chkM mj_m9 mj_l9 = true := (by first | exact mj_chkR_of (i := 1188) rfl rfl (by decide +kernel) | exact mj_chkN_of (by decide +kernel))
theorem mj_k10 : mj_chkM mj_m10 mj_l10 = true := (by first | exact mj_chkR_of (i := 185) rfl rfl (by decide +kernel) | exact mj_chkN_of (by decide +kernel))
theorem mj_k11 : mj_chkM mj_m11 mj_l11 = true := (by first | exact mj_chkR_of (i := 712) rfl rfl (by decide +kernel) | exact mj_chkN_of (by decide +kernel))
theorem mj_k12 : mj_chkM mj_m12 mj_l12 = true := (by first | exact mj_chkR_of (i := 692) rfl rfl (by decide +kernel) | exact mj_chkN_of (by decide +kernel))
theorem mj_k13 : mj_chkM mj_m13 mj_l13 = true := (by first | exact mj_chkR_of (i := 923) rfl rfl (by decide +kernel) | exact mj_chkN_of (by decide +kernel))
theorem mj_k14 : mj_chkM mj_m14 mj_l14 = true := (by first | exact mj_chkR_of (i := 577) rfl rfl (by decide +kernel) | exact mj_chkN_of (by decide +kernel))
theorem mj_k15 : mj_chkM mj_m15 mj_l15 = true := (by first | exact mj_chkR_of (i := 564) rfl rfl (by decide +kernel) | exact mj_chkN_of (by decide +kernel))
theorem mj_k16 : mj_chkM mj_m16 mj_l16 = true := (by first | exact mj_chkR_of (i := 957) rfl rfl (by decide +kernel) | exact mj_chkN_of (by decide +kernel))
theorem mj_k17 : mj_chkM mj_m17 mj_l17 = true := (by first | exact mj_chkR_of (i := 966) rfl rfl (by decide +kernel) | exact mj_chkN_of (by decide +kernel))
theorem mj_k18 : mj_chkM mj_m18 mj_l18 = true := (by first | exact mj_chkR_of (i := 1279) rfl rfl (by decide +kernel) | exact mj_chkN_of (by decide +kernel))
theorem mj_k19 : mj_chkM mj_m19 mj_l19 = true := (by first | exact mj_chkR_of (i := 1123) rfl rfl (by decide +kernel) | exact mj_chkN_of (by decide +kernel))
theorem mj_k20 : mj_chkM mj_m20 mj_l20 = true := (by first | exact mj_chkR_of (i := 1008) rfl rfl (by decide +kernel) | exact mj_chkN_of (by decide +kernel))
theorem mj_k21 : mj_chkM mj_m21 mj_l21 = true := (by first | exact mj_chkR_of (i := 1194) rfl rfl (by decide +kernel) | exact mj_chkN_of (by decide +kernel))
theorem mj_k22 : mj_chkM mj_m22 mj_l22 = true := (by first | exact mj_chkR_of (i := 1084) rfl rfl (by decide +kernel) | exact mj_chkN_of (by decide +kernel))
theorem mj_k23 : mj_chkM mj_m23 mj_l23 = true := (by first | exact mj_chkR_of (i := 1088) rfl rfl (by decide +kernel) | exact mj_chkN_of (by decide +kernel))
theorem mj_k24 : mj_chkM mj_m24 mj_l24 = true := (by first | exact mj_chkR_of (i := 1078) rfl rfl (by decide +kernel) | exact mj_chkN_of (by decide +kernel))
theorem mj_k25 : mj_chkM mj_m25 mj_l25 = true := (by first | exact mj_chkR_of (i := 1267) rfl rfl (by decide +kernel) | exact mj_chkN_of (by decide +kernel))
theorem mj_k26 : mj_chkM mj_m26 mj_l26 = true := (by first | exact mj_chkR_of (i := 1253) rfl rfl (by decide +kernel) | exact mj_chkN_of (by decide +kernel))
theorem mj_k27 : mj_chkM mj_m27 mj_l27 = true := (by first | exact mj_chkR_of (i := 1249) rfl rfl (by decide +kernel) | exact mj_chkN_of (by decide +kernel))
theorem mj_k28 : mj_chkM mj_m28 mj_l28 = true := (by first | exact mj_chkR_of (i := 1257) rfl rfl (by decide +kernel) | exact mj_chkN_of (by decide +kernel))
theorem mj_k29 : mj_chkM mj_m29 mj_l29 = true := (by first | exact mj_chkR_of (i := 238) rfl rfl (by decide +kernel) | exact mj_chkN_of (by decide +kernel))
theorem mj_k30 : mj_chkM mj_m30 mj_l30 = true := (by first | exact mj_chkR_of (i := 1012) rfl rfl (by decide +kernel) | exact mj_chkN_of (by decide +kernel))
theorem mj_k31 : mj_chkM mj_m31 mj_l31 = true := (by first | exact mj_chkR_of (i := 1018) rfl rfl (by decide +kernel) | exact mj_chkN_of (by decide +kernel))
theorem mj_k32 : mj_chkM mj_m32 mj_l32 = true := (by first | exact mj_chkR_of (i := 1027) rfl rfl (by decide +kernel) | exact mj_chkN_of (by decide +kernel))
theorem mj_k33 : mj_chkM mj_m33 mj_l33 = true := (by first | exact mj_chkR_of (i := 1031) rfl rfl (by decide +kernel) | exact mj_chkN_of (by decide +kernel))
theorem mj_k34 : mj_chkM mj_m34 mj_l34 = true := (by first | exact mj_chkR_of (i := 1036) rfl rfl (by decide +kernel) | exact mj_chkN_of (by decide +kernel))
theorem mj_k35 : mj_chkM mj_m35 mj_l35 = true := (by first | exact mj_chkR_of (i := 191) rfl rfl (by decide +kernel) | exact mj_chkN_of (by decide +kernel))
theorem mj_k36 : mj_chkM mj_m36 mj_l36 = true := (by first | exact mj_chkR_of (i := 589) rfl rfl (by decide +kernel) | exact mj_chkN_of (by decide +kernel))
theorem mj_k37 : mj_chkM mj_m37 mj_l37 = true := (by first | exact mj_chkR_of (i := 961) rfl rfl (by decide +kernel) | exact mj_chkN_of (by decide +kernel))
theorem mj_k38 : mj_chkM mj_m38 mj_l38 = true := (by first | exact mj_chkR_of (i := 585) rfl rfl (by decide +kernel) | exact mj_chkN_of (by decide +kernel))
theorem mj_k39 : mj_chkM mj_m39 mj_l39 = true := (by first | exact mj_chkR_of (i := 581) rfl rfl (by decide +kernel) | exact mj_chkN_of (by decide +kernel))
theorem mj_k40 : mj_chkM mj_m40 mj_l40 = true := (by first | exact mj_chkR_of (i := 568) rfl rfl (by decide +kernel) | exact mj_chkN_of (by decide +kernel))
theorem mj_k41 : mj_chkM mj_m41 mj_l41 = true := (by first | exact mj_chkR_of (i := 697) rfl rfl (by decide +kernel) | exact mj_chkN_of (by decide +kernel))
theorem mj_k42 : mj_chkM mj_m42 mj_l42 = true := (by first | exact mj_chkR_of (i := 573) rfl rfl (by decide +kernel) | exact mj_chkN_of (by decide +kernel))
theorem mj_k43 : mj_chkM mj_m43 mj_l43 = true := (by first | exact mj_chkR_of (i := 1050) rfl rfl (by decide +kernel) | exact mj_chkN_of (by decide +kernel))
theorem mj_k44 : mj_chkM mj_m44 mj_l44 = true := (by first | exact mj_chkR_of (i := 703) rfl rfl (by decide +kernel) | exact mj_chkN_of (by decide +kernel))
theorem mj_k45 : mj_chkM mj_m45 mj_l45 = true := (by first | exact mj_chkR_of (i := 377) rfl rfl (by decide +kernel) | exact mj_chkN_of (by decide +kernel))
theorem mj_k46 : mj_chkM mj_m46 mj_l46 = true := (by first | exact mj_chkR_of (i := 643) rfl rfl (by decide +kernel) | exact mj_chkN_of (by decide +kernel))
theorem mj_k47 : mj_chkM mj_m47 mj_l47 = true := (by first | exact mj_chkR_of (i := 724) rfl rfl (by decide +kernel) | exact mj_chkN_of (by decide +kernel))
theorem mj_k48 : mj_chkM mj_m48 mj_l48 = true := (by first | exact mj_chkR_of (i := 650) rfl rfl (by decide +kernel) | exact mj_chkN_of (by decide +kernel))
theorem mj_k49 : mj_chkM mj_m49 mj_l49 = true := (by first | exact mj_chkR_of (i := 647) rfl rfl (by decide +kernel) | exact mj_chkN_of (by decide +kernel))
theorem mj_K_0 : ∀ (j : Nat) (M : mj_M), mj_P_0[j]? = some M → mj_okA mj_P mj_Thr M := by
  intro j M h
  match j, h with
  | 0, h => cases h; exact mj_chkM_of rfl mj_k0
  | 1, h => cases h; exact mj_chkM_of rfl mj_k1
  | 2, h => cases h; exact mj_chkM_of rfl mj_k2
  | 3, h => cases h; exact mj_chkM_of rfl mj_k3
  | 4, h => cases h; exact mj_chkM_of rfl mj_k4
  | 5, h => cases h; exact mj_chkM_of rfl mj_k5
  | 6, h => cases h; exact mj_chkM_of rfl mj_k6
  | 7, h => cases h; exact mj_chkM_of rfl mj_k7
  | 8, h => cases h; exact mj_chkM_of rfl mj_k8
  | 9, h => cases h; exact mj_chkM_of rfl mj_k9
  | 10, h => cases h; exact mj_chkM_of rfl mj_k10
  | 11, h => cases h; exact mj_chkM_of rfl mj_k11
  | 12, h => cases h; exact mj_chkM_of rfl mj_k12
  | 13, h => cases h; exact mj_chkM_of rfl mj_k13
  | 14, h => cases h; exact mj_chkM_of rfl mj_k14
  | 15, h => cases h; exact mj_chkM_of rfl mj_k15
  | 16, h => cases h; exact mj_chkM_of rfl mj_k16
  | 17, h => cases h; exact mj_chkM_of rfl mj_k17
  | 18, h => cases h; exact mj_chkM_of rfl mj_k18
  | 19, h => cases h; exact mj_chkM_of rfl mj_k19
  | 20, h => cases h; exact mj_chkM_of rfl mj_k20
  | 21, h => cases h; exact mj_chkM_of rfl mj_k21
  | 22, h => cases h; exact mj_chkM_of rfl mj_k22
  | 23, h => cases h; exact mj_chkM_of rfl mj_k23
  | 24, h => cases h; exact mj_chkM_of rfl mj_k24
  | 25, h => cases h; exact mj_chkM_of rfl mj_k25
  | 26, h => cases h; exact mj_chkM_of rfl mj_k26
  | 27, h => cases h; exact mj_chkM_of rfl mj_k27
  | 28, h => cases h; exact mj_chkM_of rfl mj_k28
  | 29, h => cases h; exact mj_chkM_of rfl mj_k29
  | 30, h => cases h; exact mj_chkM_of rfl mj_k30
  | 31, h => cases h; exact mj_chkM_of rfl mj_k31
  | 32, h => cases h; exact mj_chkM_of rfl mj_k32
  | 33, h => cases h; exact mj_chkM_of rfl mj_k33
  | 34, h => cases h; exact mj_chkM_of rfl mj_k34
  | 35, h => cases h; exact mj_chkM_of rfl mj_k35
  | 36, h => cases h; exact mj_chkM_of rfl mj_k36
  | 37, h => cases h; exact mj_chkM_of rfl mj_k37
  | 38, h => cases h; exact mj_chkM_of rfl mj_k38
  | 39, h => cases h; exact mj_chkM_of rfl mj_k39
  | 40, h => cases h; exact mj_chkM_of rfl mj_k40
  | 41, h => cases h; exact mj_chkM_of rfl mj_k41
  | 42, h => cases h; exact mj_chkM_of rfl mj_k42
  | 43, h => cases h; exact mj_chkM_of rfl mj_k43
  | 44, h => cases h; exact mj_chkM_of rfl mj_k44
  | 45, h => cases h; exact mj_chkM_of rfl mj_k45
  | 46, h => cases h; exact mj_chkM_of rfl mj_k46
  | 47, h => cases h; exact mj_chkM_of rfl mj_k47
  | 48, h => cases h; exact mj_chkM_of rfl mj_k48
  | 49, h => cases h; exact mj_chkM_of rfl mj_k49
  | j + 50, h => simp [mj_P_0] at h
