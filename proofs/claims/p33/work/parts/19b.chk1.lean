theorem mj_k50 : mj_chkM mj_m50 mj_l50 = true := (by first | exact mj_chkR_of (i := 669) rfl rfl (by decide +kernel) | exact mj_chkN_of (by decide +kernel))
theorem mj_k51 : mj_chkM mj_m51 mj_l51 = true := (by first | exact mj_chkR_of (i := 708) rfl rfl (by decide +kernel) | exact mj_chkN_of (by decide +kernel))
theorem mj_k52 : mj_chkM mj_m52 mj_l52 = true := (by first | exact mj_chkR_of (i := 673) rfl rfl (by decide +kernel) | exact mj_chkN_of (by decide +kernel))
theorem mj_k53 : mj_chkM mj_m53 mj_l53 = true := (by first | exact mj_chkR_of (i := 687) rfl rfl (by decide +kernel) | exact mj_chkN_of (by decide +kernel))
theorem mj_k54 : mj_chkM mj_m54 mj_l54 = true := (by first | exact mj_chkR_of (i := 680) rfl rfl (by decide +kernel) | exact mj_chkN_of (by decide +kernel))
theorem mj_k55 : mj_chkM mj_m55 mj_l55 = true := (by first | exact mj_chkR_of (i := 676) rfl rfl (by decide +kernel) | exact mj_chkN_of (by decide +kernel))
theorem mj_k56 : mj_chkM mj_m56 mj_l56 = true := (by first | exact mj_chkR_of (i := 661) rfl rfl (by decide +kernel) | exact mj_chkN_of (by decide +kernel))
theorem mj_k57 : mj_chkM mj_m57 mj_l57 = true := (by first | exact mj_chkR_of (i := 657) rfl rfl (by decide +kernel) | exact mj_chkN_of (by decide +kernel))
theorem mj_k58 : mj_chkM mj_m58 mj_l58 = true := (by first | exact mj_chkR_of (i := 325) rfl rfl (by decide +kernel) | exact mj_chkN_of (by decide +kernel))
theorem mj_k59 : mj_chkM mj_m59 mj_l59 = true := (by first | exact mj_chkR_of (i := 977) rfl rfl (by decide +kernel) | exact mj_chkN_of (by decide +kernel))
theorem mj_k60 : mj_chkM mj_m60 mj_l60 = true := (by first | exact mj_chkR_of (i := 1070) rfl rfl (by decide +kernel) | exact mj_chkN_of (by decide +kernel))
theorem mj_k61 : mj_chkM mj_m61 mj_l61 = true := (by first | exact mj_chkR_of (i := 1111) rfl rfl (by decide +kernel) | exact mj_chkN_of (by decide +kernel))
theorem mj_k62 : mj_chkM mj_m62 mj_l62 = true := (by first | exact mj_chkR_of (i := 1127) rfl rfl (by decide +kernel) | exact mj_chkN_of (by decide +kernel))
theorem mj_k63 : mj_chkM mj_m63 mj_l63 = true := (by first | exact mj_chkR_of (i := 1369) rfl rfl (by decide +kernel) | exact mj_chkN_of (by decide +kernel))
theorem mj_k64 : mj_chkM mj_m64 mj_l64 = true := (by first | exact mj_chkR_of (i := 1374) rfl rfl (by decide +kernel) | exact mj_chkN_of (by decide +kernel))
theorem mj_k65 : mj_chkM mj_m65 mj_l65 = true := (by first | exact mj_chkR_of (i := 1380) rfl rfl (by decide +kernel) | exact mj_chkN_of (by decide +kernel))
theorem mj_k66 : mj_chkM mj_m66 mj_l66 = true := (by first | exact mj_chkR_of (i := 1395) rfl rfl (by decide +kernel) | exact mj_chkN_of (by decide +kernel))
theorem mj_k67 : mj_chkM mj_m67 mj_l67 = true := (by first | exact mj_chkR_of (i := 293) rfl rfl (by decide +kernel) | exact mj_chkN_of (by decide +kernel))
theorem mj_k68 : mj_chkM mj_m68 mj_l68 = true := (by first | exact mj_chkR_of (i := 1316) rfl rfl (by decide +kernel) | exact mj_chkN_of (by decide +kernel))
theorem mj_k69 : mj_chkM mj_m69 mj_l69 = true := (by first | exact mj_chkR_of (i := 1115) rfl rfl (by decide +kernel) | exact mj_chkN_of (by decide +kernel))
theorem mj_k70 : mj_chkM mj_m70 mj_l70 = true := (by first | exact mj_chkR_of (i := 996) rfl rfl (by decide +kernel) | exact mj_chkN_of (by decide +kernel))
theorem mj_k71 : mj_chkM mj_m71 mj_l71 = true := (by first | exact mj_chkR_of (i := 1001) rfl rfl (by decide +kernel) | exact mj_chkN_of (by decide +kernel))
theorem mj_k72 : mj_chkM mj_m72 mj_l72 = true := (by first | exact mj_chkR_of (i := 1058) rfl rfl (by decide +kernel) | exact mj_chkN_of (by decide +kernel))
theorem mj_k73 : mj_chkM mj_m73 mj_l73 = true := (by first | exact mj_chkR_of (i := 1066) rfl rfl (by decide +kernel) | exact mj_chkN_of (by decide +kernel))
theorem mj_k74 : mj_chkM mj_m74 mj_l74 = true := (by first | exact mj_chkR_of (i := 1334) rfl rfl (by decide +kernel) | exact mj_chkN_of (by decide +kernel))
theorem mj_k75 : mj_chkM mj_m75 mj_l75 = true := (by first | exact mj_chkR_of (i := 1339) rfl rfl (by decide +kernel) | exact mj_chkN_of (by decide +kernel))
theorem mj_k76 : mj_chkM mj_m76 mj_l76 = true := (by first | exact mj_chkR_of (i := 1343) rfl rfl (by decide +kernel) | exact mj_chkN_of (by decide +kernel))
theorem mj_k77 : mj_chkM mj_m77 mj_l77 = true := (by first | exact mj_chkR_of (i := 1323) rfl rfl (by decide +kernel) | exact mj_chkN_of (by decide +kernel))
theorem mj_k78 : mj_chkM mj_m78 mj_l78 = true := (by first | exact mj_chkR_of (i := 169) rfl rfl (by decide +kernel) | exact mj_chkN_of (by decide +kernel))
theorem mj_k79 : mj_chkM mj_m79 mj_l79 = true := (by first | exact mj_chkR_of (i := 665) rfl rfl (by decide +kernel) | exact mj_chkN_of (by decide +kernel))
theorem mj_k80 : mj_chkM mj_m80 mj_l80 = true := (by first | exact mj_chkR_of (i := 633) rfl rfl (by decide +kernel) | exact mj_chkN_of (by decide +kernel))
theorem mj_k81 : mj_chkM mj_m81 mj_l81 = true := (by first | exact mj_chkR_of (i := 1451) rfl rfl (by decide +kernel) | exact mj_chkN_of (by decide +kernel))
theorem mj_k82 : mj_chkM mj_m82 mj_l82 = true := (by first | exact mj_chkR_of (i := 625) rfl rfl (by decide +kernel) | exact mj_chkN_of (by decide +kernel))
theorem mj_k83 : mj_chkM mj_m83 mj_l83 = true := (by first | exact mj_chkR_of (i := 629) rfl rfl (by decide +kernel) | exact mj_chkN_of (by decide +kernel))
theorem mj_k84 : mj_chkM mj_m84 mj_l84 = true := (by first | exact mj_chkR_of (i := 637) rfl rfl (by decide +kernel) | exact mj_chkN_of (by decide +kernel))
theorem mj_k85 : mj_chkM mj_m85 mj_l85 = true := (by first | exact mj_chkR_of (i := 197) rfl rfl (by decide +kernel) | exact mj_chkN_of (by decide +kernel))
theorem mj_k86 : mj_chkM mj_m86 mj_l86 = true := (by first | exact mj_chkR_of (i := 332) rfl rfl (by decide +kernel) | exact mj_chkN_of (by decide +kernel))
theorem mj_k87 : mj_chkM mj_m87 mj_l87 = true := (by first | exact mj_chkR_of (i := 607) rfl rfl (by decide +kernel) | exact mj_chkN_of (by decide +kernel))
theorem mj_k88 : mj_chkM mj_m88 mj_l88 = true := (by first | exact mj_chkR_of (i := 1054) rfl rfl (by decide +kernel) | exact mj_chkN_of (by decide +kernel))
theorem mj_k89 : mj_chkM mj_m89 mj_l89 = true := (by first | exact mj_chkR_of (i := 520) rfl rfl (by decide +kernel) | exact mj_chkN_of (by decide +kernel))
theorem mj_k90 : mj_chkM mj_m90 mj_l90 = true := (by first | exact mj_chkR_of (i := 1041) rfl rfl (by decide +kernel) | exact mj_chkN_of (by decide +kernel))
theorem mj_k91 : mj_chkM mj_m91 mj_l91 = true := (by first | exact mj_chkR_of (i := 603) rfl rfl (by decide +kernel) | exact mj_chkN_of (by decide +kernel))
theorem mj_k92 : mj_chkM mj_m92 mj_l92 = true := (by first | exact mj_chkR_of (i := 616) rfl rfl (by decide +kernel) | exact mj_chkN_of (by decide +kernel))
theorem mj_k93 : mj_chkM mj_m93 mj_l93 = true := (by first | exact mj_chkR_of (i := 611) rfl rfl (by decide +kernel) | exact mj_chkN_of (by decide +kernel))
theorem mj_k94 : mj_chkM mj_m94 mj_l94 = true := (by first | exact mj_chkR_of (i := 620) rfl rfl (by decide +kernel) | exact mj_chkN_of (by decide +kernel))
theorem mj_k95 : mj_chkM mj_m95 mj_l95 = true := (by first | exact mj_chkR_of (i := 593) rfl rfl (by decide +kernel) | exact mj_chkN_of (by decide +kernel))
theorem mj_k96 : mj_chkM mj_m96 mj_l96 = true := (by first | exact mj_chkR_of (i := 1023) rfl rfl (by decide +kernel) | exact mj_chkN_of (by decide +kernel))
theorem mj_k97 : mj_chkM mj_m97 mj_l97 = true := (by first | exact mj_chkR_of (i := 1045) rfl rfl (by decide +kernel) | exact mj_chkN_of (by decide +kernel))
theorem mj_k98 : mj_chkM mj_m98 mj_l98 = true := (by first | exact mj_chkR_of (i := 516) rfl rfl (by decide +kernel) | exact mj_chkN_of (by decide +kernel))
theorem mj_k99 : mj_chkM mj_m99 mj_l99 = true := (by first | exact mj_chkR_of (i := 1305) rfl rfl (by decide +kernel) | exact mj_chkN_of (by decide +kernel))
theorem mj_K_1 : ∀ (j : Nat) (M : mj_M), mj_P_1[j]? = some M → mj_okA mj_P mj_Thr M := by
  intro j M h
  match j, h with
  | 0, h => cases h; exact mj_chkM_of rfl mj_k50
  | 1, h => cases h; exact mj_chkM_of rfl mj_k51
  | 2, h => cases h; exact mj_chkM_of rfl mj_k52
  | 3, h => cases h; exact mj_chkM_of rfl mj_k53
  | 4, h => cases h; exact mj_chkM_of rfl mj_k54
  | 5, h => cases h; exact mj_chkM_of rfl mj_k55
  | 6, h => cases h; exact mj_chkM_of rfl mj_k56
  | 7, h => cases h; exact mj_chkM_of rfl mj_k57
  | 8, h => cases h; exact mj_chkM_of rfl mj_k58
  | 9, h => cases h; exact mj_chkM_of rfl mj_k59
  | 10, h => cases h; exact mj_chkM_of rfl mj_k60
  | 11, h => cases h; exact mj_chkM_of rfl mj_k61
  | 12, h => cases h; exact mj_chkM_of rfl mj_k62
  | 13, h => cases h; exact mj_chkM_of rfl mj_k63
  | 14, h => cases h; exact mj_chkM_of rfl mj_k64
  | 15, h => cases h; exact mj_chkM_of rfl mj_k65
  | 16, h => cases h; exact mj_chkM_of rfl mj_k66
  | 17, h => cases h; exact mj_chkM_of rfl mj_k67
  | 18, h => cases h; exact mj_chkM_of rfl mj_k68
  | 19, h => cases h; exact mj_chkM_of rfl mj_k69
  | 20, h => cases h; exact mj_chkM_of rfl mj_k70
  | 21, h => cases h; exact mj_chkM_of rfl mj_k71
  | 22, h => cases h; exact mj_chkM_of rfl mj_k72
  | 23, h => cases h; exact mj_chkM_of rfl mj_k73
  | 24, h => cases h; exact mj_chkM_of rfl mj_k74
  | 25, h => cases h; exact mj_chkM_of rfl mj_k75
  | 26, h => cases h; exact mj_chkM_of rfl mj_k76
  | 27, h => cases h; exact mj_chkM_of rfl mj_k77
  | 28, h => cases h; exact mj_chkM_of rfl mj_k78
  | 29, h => cases h; exact mj_chkM_of rfl mj_k79
  | 30, h => cases h; exact mj_chkM_of rfl mj_k80
  | 31, h => cases h; exact mj_chkM_of rfl mj_k81
  | 32, h => cases h; exact mj_chkM_of rfl mj_k82
  | 33, h => cases h; exact mj_chkM_of rfl mj_k83
  | 34, h => cases h; exact mj_chkM_of rfl mj_k84
  | 35, h => cases h; exact mj_chkM_of rfl mj_k85
  | 36, h => cases h; exact mj_chkM_of rfl mj_k86
  | 37, h => cases h; exact mj_chkM_of rfl mj_k87
  | 38, h => cases h; exact mj_chkM_of rfl mj_k88
  | 39, h => cases h; exact mj_chkM_of rfl mj_k89
  | 40, h => cases h; exact mj_chkM_of rfl mj_k90
  | 41, h => cases h; exact mj_chkM_of rfl mj_k91
  | 42, h => cases h; exact mj_chkM_of rfl mj_k92
  | 43, h => cases h; exact mj_chkM_of rfl mj_k93
  | 44, h => cases h; exact mj_chkM_of rfl mj_k94
  | 45, h => cases h; exact mj_chkM_of rfl mj_k95
  | 46, h => cases h; exact mj_chkM_of rfl mj_k96
  | 47, h => cases h; exact mj_chkM_of rfl mj_k97
  | 48, h => cases h; exact mj_chkM_of rfl mj_k98
  | 49, h => cases h; exact mj_chkM_of rfl mj_k99
  | j + 50, h => simp [mj_P_1] at h
