theorem mj_k100 : mj_chkM mj_m100 mj_l100 = true := mj_chkN_of (by decide +kernel)
theorem mj_k101 : mj_chkM mj_m101 mj_l101 = true := mj_chkN_of (by decide +kernel)
theorem mj_k102 : mj_chkM mj_m102 mj_l102 = true := mj_chkN_of (by decide +kernel)
theorem mj_k103 : mj_chkM mj_m103 mj_l103 = true := mj_chkN_of (by decide +kernel)
theorem mj_k104 : mj_chkM mj_m104 mj_l104 = true := mj_chkN_of (by decide +kernel)
theorem mj_k105 : mj_chkM mj_m105 mj_l105 = true := mj_chkN_of (by decide +kernel)
theorem mj_k106 : mj_chkM mj_m106 mj_l106 = true := mj_chkN_of (by decide +kernel)
theorem mj_k107 : mj_chkM mj_m107 mj_l107 = true := mj_chkN_of (by decide +kernel)
theorem mj_k108 : mj_chkM mj_m108 mj_l108 = true := mj_chkN_of (by decide +kernel)
theorem mj_k109 : mj_chkM mj_m109 mj_l109 = true := mj_chkN_of (by decide +kernel)
theorem mj_k110 : mj_chkM mj_m110 mj_l110 = true := mj_chkN_of (by decide +kernel)
theorem mj_k111 : mj_chkM mj_m111 mj_l111 = true := mj_chkN_of (by decide +kernel)
theorem mj_k112 : mj_chkM mj_m112 mj_l112 = true := mj_chkN_of (by decide +kernel)
theorem mj_k113 : mj_chkM mj_m113 mj_l113 = true := mj_chkN_of (by decide +kernel)
theorem mj_k114 : mj_chkM mj_m114 mj_l114 = true := mj_chkN_of (by decide +kernel)
theorem mj_k115 : mj_chkM mj_m115 mj_l115 = true := mj_chkN_of (by decide +kernel)
theorem mj_k116 : mj_chkM mj_m116 mj_l116 = true := mj_chkN_of (by decide +kernel)
theorem mj_k117 : mj_chkM mj_m117 mj_l117 = true := mj_chkN_of (by decide +kernel)
theorem mj_k118 : mj_chkM mj_m118 mj_l118 = true := mj_chkN_of (by decide +kernel)
theorem mj_k119 : mj_chkM mj_m119 mj_l119 = true := mj_chkN_of (by decide +kernel)
theorem mj_k120 : mj_chkM mj_m120 mj_l120 = true := mj_chkN_of (by decide +kernel)
theorem mj_k121 : mj_chkM mj_m121 mj_l121 = true := mj_chkN_of (by decide +kernel)
theorem mj_k122 : mj_chkM mj_m122 mj_l122 = true := mj_chkN_of (by decide +kernel)
theorem mj_k123 : mj_chkM mj_m123 mj_l123 = true := mj_chkN_of (by decide +kernel)
theorem mj_k124 : mj_chkM mj_m124 mj_l124 = true := mj_chkN_of (by decide +kernel)
theorem mj_k125 : mj_chkM mj_m125 mj_l125 = true := mj_chkN_of (by decide +kernel)
theorem mj_k126 : mj_chkM mj_m126 mj_l126 = true := mj_chkN_of (by decide +kernel)
theorem mj_k127 : mj_chkM mj_m127 mj_l127 = true := mj_chkN_of (by decide +kernel)
theorem mj_k128 : mj_chkM mj_m128 mj_l128 = true := mj_chkN_of (by decide +kernel)
theorem mj_k129 : mj_chkM mj_m129 mj_l129 = true := mj_chkN_of (by decide +kernel)
theorem mj_k130 : mj_chkM mj_m130 mj_l130 = true := mj_chkN_of (by decide +kernel)
theorem mj_k131 : mj_chkM mj_m131 mj_l131 = true := mj_chkN_of (by decide +kernel)
theorem mj_k132 : mj_chkM mj_m132 mj_l132 = true := mj_chkN_of (by decide +kernel)
theorem mj_k133 : mj_chkM mj_m133 mj_l133 = true := mj_chkN_of (by decide +kernel)
theorem mj_k134 : mj_chkM mj_m134 mj_l134 = true := mj_chkN_of (by decide +kernel)
theorem mj_k135 : mj_chkM mj_m135 mj_l135 = true := mj_chkN_of (by decide +kernel)
theorem mj_k136 : mj_chkM mj_m136 mj_l136 = true := mj_chkN_of (by decide +kernel)
theorem mj_k137 : mj_chkM mj_m137 mj_l137 = true := mj_chkN_of (by decide +kernel)
theorem mj_k138 : mj_chkM mj_m138 mj_l138 = true := mj_chkN_of (by decide +kernel)
theorem mj_k139 : mj_chkM mj_m139 mj_l139 = true := mj_chkN_of (by decide +kernel)
theorem mj_k140 : mj_chkM mj_m140 mj_l140 = true := mj_chkN_of (by decide +kernel)
theorem mj_k141 : mj_chkM mj_m141 mj_l141 = true := mj_chkN_of (by decide +kernel)
theorem mj_k142 : mj_chkM mj_m142 mj_l142 = true := mj_chkN_of (by decide +kernel)
theorem mj_k143 : mj_chkM mj_m143 mj_l143 = true := mj_chkN_of (by decide +kernel)
theorem mj_k144 : mj_chkM mj_m144 mj_l144 = true := mj_chkN_of (by decide +kernel)
theorem mj_k145 : mj_chkM mj_m145 mj_l145 = true := mj_chkN_of (by decide +kernel)
theorem mj_k146 : mj_chkM mj_m146 mj_l146 = true := mj_chkN_of (by decide +kernel)
theorem mj_k147 : mj_chkM mj_m147 mj_l147 = true := mj_chkN_of (by decide +kernel)
theorem mj_k148 : mj_chkM mj_m148 mj_l148 = true := mj_chkN_of (by decide +kernel)
theorem mj_k149 : mj_chkM mj_m149 mj_l149 = true := mj_chkN_of (by decide +kernel)
theorem mj_K_2 : ∀ (j : Nat) (M : mj_M), mj_P_2[j]? = some M → mj_okA mj_P mj_Thr M := by
  intro j M h
  match j, h with
  | 0, h => cases h; exact mj_chkM_of rfl mj_k100
  | 1, h => cases h; exact mj_chkM_of rfl mj_k101
  | 2, h => cases h; exact mj_chkM_of rfl mj_k102
  | 3, h => cases h; exact mj_chkM_of rfl mj_k103
  | 4, h => cases h; exact mj_chkM_of rfl mj_k104
  | 5, h => cases h; exact mj_chkM_of rfl mj_k105
  | 6, h => cases h; exact mj_chkM_of rfl mj_k106
  | 7, h => cases h; exact mj_chkM_of rfl mj_k107
  | 8, h => cases h; exact mj_chkM_of rfl mj_k108
  | 9, h => cases h; exact mj_chkM_of rfl mj_k109
  | 10, h => cases h; exact mj_chkM_of rfl mj_k110
  | 11, h => cases h; exact mj_chkM_of rfl mj_k111
  | 12, h => cases h; exact mj_chkM_of rfl mj_k112
  | 13, h => cases h; exact mj_chkM_of rfl mj_k113
  | 14, h => cases h; exact mj_chkM_of rfl mj_k114
  | 15, h => cases h; exact mj_chkM_of rfl mj_k115
  | 16, h => cases h; exact mj_chkM_of rfl mj_k116
  | 17, h => cases h; exact mj_chkM_of rfl mj_k117
  | 18, h => cases h; exact mj_chkM_of rfl mj_k118
  | 19, h => cases h; exact mj_chkM_of rfl mj_k119
  | 20, h => cases h; exact mj_chkM_of rfl mj_k120
  | 21, h => cases h; exact mj_chkM_of rfl mj_k121
  | 22, h => cases h; exact mj_chkM_of rfl mj_k122
  | 23, h => cases h; exact mj_chkM_of rfl mj_k123
  | 24, h => cases h; exact mj_chkM_of rfl mj_k124
  | 25, h => cases h; exact mj_chkM_of rfl mj_k125
  | 26, h => cases h; exact mj_chkM_of rfl mj_k126
  | 27, h => cases h; exact mj_chkM_of rfl mj_k127
  | 28, h => cases h; exact mj_chkM_of rfl mj_k128
  | 29, h => cases h; exact mj_chkM_of rfl mj_k129
  | 30, h => cases h; exact mj_chkM_of rfl mj_k130
  | 31, h => cases h; exact mj_chkM_of rfl mj_k131
  | 32, h => cases h; exact mj_chkM_of rfl mj_k132
  | 33, h => cases h; exact mj_chkM_of rfl mj_k133
  | 34, h => cases h; exact mj_chkM_of rfl mj_k134
  | 35, h => cases h; exact mj_chkM_of rfl mj_k135
  | 36, h => cases h; exact mj_chkM_of rfl mj_k136
  | 37, h => cases h; exact mj_chkM_of rfl mj_k137
  | 38, h => cases h; exact mj_chkM_of rfl mj_k138
  | 39, h => cases h; exact mj_chkM_of rfl mj_k139
  | 40, h => cases h; exact mj_chkM_of rfl mj_k140
  | 41, h => cases h; exact mj_chkM_of rfl mj_k141
  | 42, h => cases h; exact mj_chkM_of rfl mj_k142
  | 43, h => cases h; exact mj_chkM_of rfl mj_k143
  | 44, h => cases h; exact mj_chkM_of rfl mj_k144
  | 45, h => cases h; exact mj_chkM_of rfl mj_k145
  | 46, h => cases h; exact mj_chkM_of rfl mj_k146
  | 47, h => cases h; exact mj_chkM_of rfl mj_k147
  | 48, h => cases h; exact mj_chkM_of rfl mj_k148
  | 49, h => cases h; exact mj_chkM_of rfl mj_k149
  | j + 50, h => simp [mj_P_2] at h
