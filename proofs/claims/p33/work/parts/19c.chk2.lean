theorem mj_k100 : mj_chkM mj_m100 mj_l100 = true := (by first | exact mj_chkR_of (i := 528) rfl rfl (by decide +kernel) | exact mj_chkN_of (by decide +kernel))
theorem mj_k101 : mj_chkM mj_m101 mj_l101 = true := (by first | exact mj_chkR_of (i := 135) rfl rfl (by decide +kernel) | exact mj_chkN_of (by decide +kernel))
theorem mj_k102 : mj_chkM mj_m102 mj_l102 = true := (by first | exact mj_chkR_of (i := 813) rfl rfl (by decide +kernel) | exact mj_chkN_of (by decide +kernel))
theorem mj_k103 : mj_chkM mj_m103 mj_l103 = true := (by first | exact mj_chkR_of (i := 866) rfl rfl (by decide +kernel) | exact mj_chkN_of (by decide +kernel))
theorem mj_k104 : mj_chkM mj_m104 mj_l104 = true := (by first | exact mj_chkR_of (i := 873) rfl rfl (by decide +kernel) | exact mj_chkN_of (by decide +kernel))
theorem mj_k105 : mj_chkM mj_m105 mj_l105 = true := (by first | exact mj_chkR_of (i := 882) rfl rfl (by decide +kernel) | exact mj_chkN_of (by decide +kernel))
theorem mj_k106 : mj_chkM mj_m106 mj_l106 = true := (by first | exact mj_chkR_of (i := 908) rfl rfl (by decide +kernel) | exact mj_chkN_of (by decide +kernel))
theorem mj_k107 : mj_chkM mj_m107 mj_l107 = true := (by first | exact mj_chkR_of (i := 919) rfl rfl (by decide +kernel) | exact mj_chkN_of (by decide +kernel))
theorem mj_k108 : mj_chkM mj_m108 mj_l108 = true := (by first | exact mj_chkR_of (i := 944) rfl rfl (by decide +kernel) | exact mj_chkN_of (by decide +kernel))
theorem mj_k109 : mj_chkM mj_m109 mj_l109 = true := (by first | exact mj_chkR_of (i := 973) rfl rfl (by decide +kernel) | exact mj_chkN_of (by decide +kernel))
theorem mj_k110 : mj_chkM mj_m110 mj_l110 = true := (by first | exact mj_chkR_of (i := 1099) rfl rfl (by decide +kernel) | exact mj_chkN_of (by decide +kernel))
theorem mj_k111 : mj_chkM mj_m111 mj_l111 = true := (by first | exact mj_chkR_of (i := 1107) rfl rfl (by decide +kernel) | exact mj_chkN_of (by decide +kernel))
theorem mj_k112 : mj_chkM mj_m112 mj_l112 = true := (by first | exact mj_chkR_of (i := 1134) rfl rfl (by decide +kernel) | exact mj_chkN_of (by decide +kernel))
theorem mj_k113 : mj_chkM mj_m113 mj_l113 = true := (by first | exact mj_chkR_of (i := 1147) rfl rfl (by decide +kernel) | exact mj_chkN_of (by decide +kernel))
theorem mj_k114 : mj_chkM mj_m114 mj_l114 = true := (by first | exact mj_chkR_of (i := 1154) rfl rfl (by decide +kernel) | exact mj_chkN_of (by decide +kernel))
theorem mj_k115 : mj_chkM mj_m115 mj_l115 = true := (by first | exact mj_chkR_of (i := 1161) rfl rfl (by decide +kernel) | exact mj_chkN_of (by decide +kernel))
theorem mj_k116 : mj_chkM mj_m116 mj_l116 = true := (by first | exact mj_chkR_of (i := 470) rfl rfl (by decide +kernel) | exact mj_chkN_of (by decide +kernel))
theorem mj_k117 : mj_chkM mj_m117 mj_l117 = true := (by first | exact mj_chkR_of (i := 1173) rfl rfl (by decide +kernel) | exact mj_chkN_of (by decide +kernel))
theorem mj_k118 : mj_chkM mj_m118 mj_l118 = true := (by first | exact mj_chkR_of (i := 504) rfl rfl (by decide +kernel) | exact mj_chkN_of (by decide +kernel))
theorem mj_k119 : mj_chkM mj_m119 mj_l119 = true := (by first | exact mj_chkR_of (i := 1203) rfl rfl (by decide +kernel) | exact mj_chkN_of (by decide +kernel))
theorem mj_k120 : mj_chkM mj_m120 mj_l120 = true := (by first | exact mj_chkR_of (i := 1210) rfl rfl (by decide +kernel) | exact mj_chkN_of (by decide +kernel))
theorem mj_k121 : mj_chkM mj_m121 mj_l121 = true := (by first | exact mj_chkR_of (i := 1217) rfl rfl (by decide +kernel) | exact mj_chkN_of (by decide +kernel))
theorem mj_k122 : mj_chkM mj_m122 mj_l122 = true := (by first | exact mj_chkR_of (i := 1224) rfl rfl (by decide +kernel) | exact mj_chkN_of (by decide +kernel))
theorem mj_k123 : mj_chkM mj_m123 mj_l123 = true := (by first | exact mj_chkR_of (i := 1235) rfl rfl (by decide +kernel) | exact mj_chkN_of (by decide +kernel))
theorem mj_k124 : mj_chkM mj_m124 mj_l124 = true := (by first | exact mj_chkR_of (i := 1242) rfl rfl (by decide +kernel) | exact mj_chkN_of (by decide +kernel))
theorem mj_k125 : mj_chkM mj_m125 mj_l125 = true := (by first | exact mj_chkR_of (i := 1275) rfl rfl (by decide +kernel) | exact mj_chkN_of (by decide +kernel))
theorem mj_k126 : mj_chkM mj_m126 mj_l126 = true := (by first | exact mj_chkR_of (i := 1287) rfl rfl (by decide +kernel) | exact mj_chkN_of (by decide +kernel))
theorem mj_k127 : mj_chkM mj_m127 mj_l127 = true := (by first | exact mj_chkR_of (i := 1294) rfl rfl (by decide +kernel) | exact mj_chkN_of (by decide +kernel))
theorem mj_k128 : mj_chkM mj_m128 mj_l128 = true := (by first | exact mj_chkR_of (i := 508) rfl rfl (by decide +kernel) | exact mj_chkN_of (by decide +kernel))
theorem mj_k129 : mj_chkM mj_m129 mj_l129 = true := (by first | exact mj_chkR_of (i := 1301) rfl rfl (by decide +kernel) | exact mj_chkN_of (by decide +kernel))
theorem mj_k130 : mj_chkM mj_m130 mj_l130 = true := (by first | exact mj_chkR_of (i := 524) rfl rfl (by decide +kernel) | exact mj_chkN_of (by decide +kernel))
theorem mj_k131 : mj_chkM mj_m131 mj_l131 = true := (by first | exact mj_chkR_of (i := 1312) rfl rfl (by decide +kernel) | exact mj_chkN_of (by decide +kernel))
theorem mj_k132 : mj_chkM mj_m132 mj_l132 = true := (by first | exact mj_chkR_of (i := 1330) rfl rfl (by decide +kernel) | exact mj_chkN_of (by decide +kernel))
theorem mj_k133 : mj_chkM mj_m133 mj_l133 = true := (by first | exact mj_chkR_of (i := 1351) rfl rfl (by decide +kernel) | exact mj_chkN_of (by decide +kernel))
theorem mj_k134 : mj_chkM mj_m134 mj_l134 = true := (by first | exact mj_chkR_of (i := 1358) rfl rfl (by decide +kernel) | exact mj_chkN_of (by decide +kernel))
theorem mj_k135 : mj_chkM mj_m135 mj_l135 = true := (by first | exact mj_chkR_of (i := 1365) rfl rfl (by decide +kernel) | exact mj_chkN_of (by decide +kernel))
theorem mj_k136 : mj_chkM mj_m136 mj_l136 = true := (by first | exact mj_chkR_of (i := 1391) rfl rfl (by decide +kernel) | exact mj_chkN_of (by decide +kernel))
theorem mj_k137 : mj_chkM mj_m137 mj_l137 = true := (by first | exact mj_chkR_of (i := 1404) rfl rfl (by decide +kernel) | exact mj_chkN_of (by decide +kernel))
theorem mj_k138 : mj_chkM mj_m138 mj_l138 = true := (by first | exact mj_chkR_of (i := 1411) rfl rfl (by decide +kernel) | exact mj_chkN_of (by decide +kernel))
theorem mj_k139 : mj_chkM mj_m139 mj_l139 = true := (by first | exact mj_chkR_of (i := 1422) rfl rfl (by decide +kernel) | exact mj_chkN_of (by decide +kernel))
theorem mj_k140 : mj_chkM mj_m140 mj_l140 = true := (by first | exact mj_chkR_of (i := 532) rfl rfl (by decide +kernel) | exact mj_chkN_of (by decide +kernel))
theorem mj_k141 : mj_chkM mj_m141 mj_l141 = true := (by first | exact mj_chkR_of (i := 1444) rfl rfl (by decide +kernel) | exact mj_chkN_of (by decide +kernel))
theorem mj_k142 : mj_chkM mj_m142 mj_l142 = true := (by first | exact mj_chkR_of (i := 536) rfl rfl (by decide +kernel) | exact mj_chkN_of (by decide +kernel))
theorem mj_k143 : mj_chkM mj_m143 mj_l143 = true := (by first | exact mj_chkR_of (i := 540) rfl rfl (by decide +kernel) | exact mj_chkN_of (by decide +kernel))
theorem mj_k144 : mj_chkM mj_m144 mj_l144 = true := (by first | exact mj_chkR_of (i := 1458) rfl rfl (by decide +kernel) | exact mj_chkN_of (by decide +kernel))
theorem mj_k145 : mj_chkM mj_m145 mj_l145 = true := (by first | exact mj_chkR_of (i := 1465) rfl rfl (by decide +kernel) | exact mj_chkN_of (by decide +kernel))
theorem mj_k146 : mj_chkM mj_m146 mj_l146 = true := (by first | exact mj_chkR_of (i := 544) rfl rfl (by decide +kernel) | exact mj_chkN_of (by decide +kernel))
theorem mj_k147 : mj_chkM mj_m147 mj_l147 = true := (by first | exact mj_chkR_of (i := 552) rfl rfl (by decide +kernel) | exact mj_chkN_of (by decide +kernel))
theorem mj_k148 : mj_chkM mj_m148 mj_l148 = true := (by first | exact mj_chkR_of (i := 560) rfl rfl (by decide +kernel) | exact mj_chkN_of (by decide +kernel))
theorem mj_k149 : mj_chkM mj_m149 mj_l149 = true := (by first | exact mj_chkR_of (i := 817) rfl rfl (by decide +kernel) | exact mj_chkN_of (by decide +kernel))
theorem mj_K_2 : ∀ (j : Nat) (M : mj_M), mj_P_2[j]? = some M → mj_okA mj_P mj_Thr M := by
  intro j M h
  match j, h with
  | 0, h => cases h; exact mj_chkM_of rfl mj_k100
  | 1, h => cases h; exact mj_chkM_of rfl mj_k101
  | 2, h => cases h; exact mj_chkM_of rfl mj_k102
  | 3, h => cases h; exact mj_chkM_of rfl mj_k103
  | 4, h => cases h; exact mj_chkM_of rfl mj_k104
  | 5, h => cases h; exact mj_chkM_of rfl mj_k105
  | 6, h => cases h; exact mj_chkM_of rfl mj_k106
  | 7, h => cases h; exact mj_chkM_of rfl mj_k107
  | 8, h => cases h; exact mj_chkM_of rfl mj_k108
  | 9, h => cases h; exact mj_chkM_of rfl mj_k109
  | 10, h => cases h; exact mj_chkM_of rfl mj_k110
  | 11, h => cases h; exact mj_chkM_of rfl mj_k111
  | 12, h => cases h; exact mj_chkM_of rfl mj_k112
  | 13, h => cases h; exact mj_chkM_of rfl mj_k113
  | 14, h => cases h; exact mj_chkM_of rfl mj_k114
  | 15, h => cases h; exact mj_chkM_of rfl mj_k115
  | 16, h => cases h; exact mj_chkM_of rfl mj_k116
  | 17, h => cases h; exact mj_chkM_of rfl mj_k117
  | 18, h => cases h; exact mj_chkM_of rfl mj_k118
  | 19, h => cases h; exact mj_chkM_of rfl mj_k119
  | 20, h => cases h; exact mj_chkM_of rfl mj_k120
  | 21, h => cases h; exact mj_chkM_of rfl mj_k121
  | 22, h => cases h; exact mj_chkM_of rfl mj_k122
  | 23, h => cases h; exact mj_chkM_of rfl mj_k123
  | 24, h => cases h; exact mj_chkM_of rfl mj_k124
  | 25, h => cases h; exact mj_chkM_of rfl mj_k125
  | 26, h => cases h; exact mj_chkM_of rfl mj_k126
  | 27, h => cases h; exact mj_chkM_of rfl mj_k127
  | 28, h => cases h; exact mj_chkM_of rfl mj_k128
  | 29, h => cases h; exact mj_chkM_of rfl mj_k129
  | 30, h => cases h; exact mj_chkM_of rfl mj_k130
  | 31, h => cases h; exact mj_chkM_of rfl mj_k131
  | 32, h => cases h; exact mj_chkM_of rfl mj_k132
  | 33, h => cases h; exact mj_chkM_of rfl mj_k133
  | 34, h => cases h; exact mj_chkM_of rfl mj_k134
  | 35, h => cases h; exact mj_chkM_of rfl mj_k135
  | 36, h => cases h; exact mj_chkM_of rfl mj_k136
  | 37, h => cases h; exact mj_chkM_of rfl mj_k137
  | 38, h => cases h; exact mj_chkM_of rfl mj_k138
  | 39, h => cases h; exact mj_chkM_of rfl mj_k139
  | 40, h => cases h; exact mj_chkM_of rfl mj_k140
  | 41, h => cases h; exact mj_chkM_of rfl mj_k141
  | 42, h => cases h; exact mj_chkM_of rfl mj_k142
  | 43, h => cases h; exact mj_chkM_of rfl mj_k143
  | 44, h => cases h; exact mj_chkM_of rfl mj_k144
  | 45, h => cases h; exact mj_chkM_of rfl mj_k145
  | 46, h => cases h; exact mj_chkM_of rfl mj_k146
  | 47, h => cases h; exact mj_chkM_of rfl mj_k147
  | 48, h => cases h; exact mj_chkM_of rfl mj_k148
  | 49, h => cases h; exact mj_chkM_of rfl mj_k149
  | j + 50, h => simp [mj_P_2] at h
