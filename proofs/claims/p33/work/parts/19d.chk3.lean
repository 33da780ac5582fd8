theorem mj_k150 : mj_chkM mj_m150 mj_l150 = true := (by first | exact mj_chkR_of (i := 885) rfl rfl (by decide +kernel) | exact mj_chkN_of (by decide +kernel))
theorem mj_k151 : mj_chkM mj_m151 mj_l151 = true := (by first | exact mj_chkR_of (i := 1245) rfl rfl (by decide +kernel) | exact mj_chkN_of (by decide +kernel))
theorem mj_k152 : mj_chkM mj_m152 mj_l152 = true := (by first | exact mj_chkR_of (i := 1137) rfl rfl (by decide +kernel) | exact mj_chkN_of (by decide +kernel))
theorem mj_k153 : mj_chkM mj_m153 mj_l153 = true := (by first | exact mj_chkR_of (i := 947) rfl rfl (by decide +kernel) | exact mj_chkN_of (by decide +kernel))
theorem mj_k154 : mj_chkM mj_m154 mj_l154 = true := (by first | exact mj_chkR_of (i := 858) rfl rfl (by decide +kernel) | exact mj_chkN_of (by decide +kernel))
theorem mj_k155 : mj_chkM mj_m155 mj_l155 = true := (by first | exact mj_chkR_of (i := 478) rfl rfl (by decide +kernel) | exact mj_chkN_of (by decide +kernel))
theorem mj_k156 : mj_chkM mj_m156 mj_l156 = true := (by first | exact mj_chkR_of (i := 474) rfl rfl (by decide +kernel) | exact mj_chkN_of (by decide +kernel))
theorem mj_k157 : mj_chkM mj_m157 mj_l157 = true := (by first | exact mj_chkR_of (i := 512) rfl rfl (by decide +kernel) | exact mj_chkN_of (by decide +kernel))
theorem mj_k158 : mj_chkM mj_m158 mj_l158 = true := (by first | exact mj_chkR_of (i := 1228) rfl rfl (by decide +kernel) | exact mj_chkN_of (by decide +kernel))
theorem mj_k159 : mj_chkM mj_m159 mj_l159 = true := (by first | exact mj_chkR_of (i := 1261) rfl rfl (by decide +kernel) | exact mj_chkN_of (by decide +kernel))
theorem mj_k160 : mj_chkM mj_m160 mj_l160 = true := (by first | exact mj_chkR_of (i := 1447) rfl rfl (by decide +kernel) | exact mj_chkN_of (by decide +kernel))
theorem mj_k161 : mj_chkM mj_m161 mj_l161 = true := (by first | exact mj_chkR_of (i := 718) rfl rfl (by decide +kernel) | exact mj_chkN_of (by decide +kernel))
theorem mj_k162 : mj_chkM mj_m162 mj_l162 = true := (by first | exact mj_chkR_of (i := 555) rfl rfl (by decide +kernel) | exact mj_chkN_of (by decide +kernel))
theorem mj_k163 : mj_chkM mj_m163 mj_l163 = true := (by first | exact mj_chkR_of (i := 547) rfl rfl (by decide +kernel) | exact mj_chkN_of (by decide +kernel))
theorem mj_k164 : mj_chkM mj_m164 mj_l164 = true := (by first | exact mj_chkR_of (i := 485) rfl rfl (by decide +kernel) | exact mj_chkN_of (by decide +kernel))
theorem mj_k165 : mj_chkM mj_m165 mj_l165 = true := (by first | exact mj_chkR_of (i := 653) rfl rfl (by decide +kernel) | exact mj_chkN_of (by decide +kernel))
theorem mj_k166 : mj_chkM mj_m166 mj_l166 = true := (by first | exact mj_chkR_of (i := 727) rfl rfl (by decide +kernel) | exact mj_chkN_of (by decide +kernel))
theorem mj_k167 : mj_chkM mj_m167 mj_l167 = true := (by first | exact mj_chkR_of (i := 715) rfl rfl (by decide +kernel) | exact mj_chkN_of (by decide +kernel))
theorem mj_k168 : mj_chkM mj_m168 mj_l168 = true := (by first | exact mj_chkR_of (i := 911) rfl rfl (by decide +kernel) | exact mj_chkN_of (by decide +kernel))
theorem mj_k169 : mj_chkM mj_m169 mj_l169 = true := (by first | exact mj_chkR_of (i := 981) rfl rfl (by decide +kernel) | exact mj_chkN_of (by decide +kernel))
theorem mj_k170 : mj_chkM mj_m170 mj_l170 = true := (by first | exact mj_chkR_of (i := 988) rfl rfl (by decide +kernel) | exact mj_chkN_of (by decide +kernel))
theorem mj_k171 : mj_chkM mj_m171 mj_l171 = true := (by first | exact mj_chkR_of (i := 984) rfl rfl (by decide +kernel) | exact mj_chkN_of (by decide +kernel))
theorem mj_k172 : mj_chkM mj_m172 mj_l172 = true := (by first | exact mj_chkR_of (i := 1140) rfl rfl (by decide +kernel) | exact mj_chkN_of (by decide +kernel))
theorem mj_k173 : mj_chkM mj_m173 mj_l173 = true := (by first | exact mj_chkR_of (i := 1414) rfl rfl (by decide +kernel) | exact mj_chkN_of (by decide +kernel))
theorem mj_k174 : mj_chkM mj_m174 mj_l174 = true := (by first | exact mj_chkR_of (i := 1471) rfl rfl (by decide +kernel) | exact mj_chkN_of (by decide +kernel))
theorem mj_k175 : mj_chkM mj_m175 mj_l175 = true := (by first | exact mj_chkR_of (i := 1535) rfl rfl (by decide +kernel) | exact mj_chkN_of (by decide +kernel))
theorem mj_k176 : mj_chkM mj_m176 mj_l176 = true := (by first | exact mj_chkR_of (i := 1557) rfl rfl (by decide +kernel) | exact mj_chkN_of (by decide +kernel))
theorem mj_k177 : mj_chkM mj_m177 mj_l177 = true := (by first | exact mj_chkR_of (i := 1553) rfl rfl (by decide +kernel) | exact mj_chkN_of (by decide +kernel))
theorem mj_k178 : mj_chkM mj_m178 mj_l178 = true := (by first | exact mj_chkR_of (i := 1576) rfl rfl (by decide +kernel) | exact mj_chkN_of (by decide +kernel))
theorem mj_k179 : mj_chkM mj_m179 mj_l179 = true := (by first | exact mj_chkR_of (i := 1584) rfl rfl (by decide +kernel) | exact mj_chkN_of (by decide +kernel))
theorem mj_k180 : mj_chkM mj_m180 mj_l180 = true := (by first | exact mj_chkR_of (i := 1605) rfl rfl (by decide +kernel) | exact mj_chkN_of (by decide +kernel))
theorem mj_k181 : mj_chkM mj_m181 mj_l181 = true := (by first | exact mj_chkR_of (i := 1481) rfl rfl (by decide +kernel) | exact mj_chkN_of (by decide +kernel))
theorem mj_k182 : mj_chkM mj_m182 mj_l182 = true := (by first | exact mj_chkR_of (i := 1580) rfl rfl (by decide +kernel) | exact mj_chkN_of (by decide +kernel))
theorem mj_k183 : mj_chkM mj_m183 mj_l183 = true := (by first | exact mj_chkR_of (i := 1597) rfl rfl (by decide +kernel) | exact mj_chkN_of (by decide +kernel))
theorem mj_k184 : mj_chkM mj_m184 mj_l184 = true := (by first | exact mj_chkR_of (i := 1601) rfl rfl (by decide +kernel) | exact mj_chkN_of (by decide +kernel))
theorem mj_k185 : mj_chkM mj_m185 mj_l185 = true := (by first | exact mj_chkR_of (i := 1939) rfl rfl (by decide +kernel) | exact mj_chkN_of (by decide +kernel))
theorem mj_k186 : mj_chkM mj_m186 mj_l186 = true := (by first | exact mj_chkR_of (i := 1591) rfl rfl (by decide +kernel) | exact mj_chkN_of (by decide +kernel))
theorem mj_k187 : mj_chkM mj_m187 mj_l187 = true := (by first | exact mj_chkR_of (i := 1609) rfl rfl (by decide +kernel) | exact mj_chkN_of (by decide +kernel))
theorem mj_k188 : mj_chkM mj_m188 mj_l188 = true := (by first | exact mj_chkR_of (i := 1572) rfl rfl (by decide +kernel) | exact mj_chkN_of (by decide +kernel))
theorem mj_k189 : mj_chkM mj_m189 mj_l189 = true := (by first | exact mj_chkR_of (i := 1657) rfl rfl (by decide +kernel) | exact mj_chkN_of (by decide +kernel))
theorem mj_k190 : mj_chkM mj_m190 mj_l190 = true := (by first | exact mj_chkR_of (i := 1717) rfl rfl (by decide +kernel) | exact mj_chkN_of (by decide +kernel))
theorem mj_k191 : mj_chkM mj_m191 mj_l191 = true := (by first | exact mj_chkR_of (i := 1714) rfl rfl (by decide +kernel) | exact mj_chkN_of (by decide +kernel))
theorem mj_k192 : mj_chkM mj_m192 mj_l192 = true := (by first | exact mj_chkR_of (i := 1721) rfl rfl (by decide +kernel) | exact mj_chkN_of (by decide +kernel))
theorem mj_k193 : mj_chkM mj_m193 mj_l193 = true := (by first | exact mj_chkR_of (i := 1710) rfl rfl (by decide +kernel) | exact mj_chkN_of (by decide +kernel))
theorem mj_k194 : mj_chkM mj_m194 mj_l194 = true := (by first | exact mj_chkR_of (i := 1737) rfl rfl (by decide +kernel) | exact mj_chkN_of (by decide +kernel))
theorem mj_k195 : mj_chkM mj_m195 mj_l195 = true := (by first | exact mj_chkR_of (i := 1629) rfl rfl (by decide +kernel) | exact mj_chkN_of (by decide +kernel))
theorem mj_k196 : mj_chkM mj_m196 mj_l196 = true := (by first | exact mj_chkR_of (i := 1564) rfl rfl (by decide +kernel) | exact mj_chkN_of (by decide +kernel))
theorem mj_k197 : mj_chkM mj_m197 mj_l197 = true := (by first | exact mj_chkR_of (i := 1633) rfl rfl (by decide +kernel) | exact mj_chkN_of (by decide +kernel))
theorem mj_k198 : mj_chkM mj_m198 mj_l198 = true := (by first | exact mj_chkR_of (i := 1653) rfl rfl (by decide +kernel) | exact mj_chkN_of (by decide +kernel))
theorem mj_k199 : mj_chkM mj_m199 mj_l199 = true := (by first | exact mj_chkR_of (i := 1561) rfl rfl (by decide +kernel) | exact mj_chkN_of (by decide +kernel))
theorem mj_K_3 : ∀ (j : Nat) (M : mj_M), mj_P_3[j]? = some M → mj_okA mj_P mj_Thr M := by
  intro j M h
  match j, h with
  | 0, h => cases h; exact mj_chkM_of rfl mj_k150
  | 1, h => cases h; exact mj_chkM_of rfl mj_k151
  | 2, h => cases h; exact mj_chkM_of rfl mj_k152
  | 3, h => cases h; exact mj_chkM_of rfl mj_k153
  | 4, h => cases h; exact mj_chkM_of rfl mj_k154
  | 5, h => cases h; exact mj_chkM_of rfl mj_k155
  | 6, h => cases h; exact mj_chkM_of rfl mj_k156
  | 7, h => cases h; exact mj_chkM_of rfl mj_k157
  | 8, h => cases h; exact mj_chkM_of rfl mj_k158
  | 9, h => cases h; exact mj_chkM_of rfl mj_k159
  | 10, h => cases h; exact mj_chkM_of rfl mj_k160
  | 11, h => cases h; exact mj_chkM_of rfl mj_k161
  | 12, h => cases h; exact mj_chkM_of rfl mj_k162
  | 13, h => cases h; exact mj_chkM_of rfl mj_k163
  | 14, h => cases h; exact mj_chkM_of rfl mj_k164
  | 15, h => cases h; exact mj_chkM_of rfl mj_k165
  | 16, h => cases h; exact mj_chkM_of rfl mj_k166
  | 17, h => cases h; exact mj_chkM_of rfl mj_k167
  | 18, h => cases h; exact mj_chkM_of rfl mj_k168
  | 19, h => cases h; exact mj_chkM_of rfl mj_k169
  | 20, h => cases h; exact mj_chkM_of rfl mj_k170
  | 21, h => cases h; exact mj_chkM_of rfl mj_k171
  | 22, h => cases h; exact mj_chkM_of rfl mj_k172
  | 23, h => cases h; exact mj_chkM_of rfl mj_k173
  | 24, h => cases h; exact mj_chkM_of rfl mj_k174
  | 25, h => cases h; exact mj_chkM_of rfl mj_k175
  | 26, h => cases h; exact mj_chkM_of rfl mj_k176
  | 27, h => cases h; exact mj_chkM_of rfl mj_k177
  | 28, h => cases h; exact mj_chkM_of rfl mj_k178
  | 29, h => cases h; exact mj_chkM_of rfl mj_k179
  | 30, h => cases h; exact mj_chkM_of rfl mj_k180
  | 31, h => cases h; exact mj_chkM_of rfl mj_k181
  | 32, h => cases h; exact mj_chkM_of rfl mj_k182
  | 33, h => cases h; exact mj_chkM_of rfl mj_k183
  | 34, h => cases h; exact mj_chkM_of rfl mj_k184
  | 35, h => cases h; exact mj_chkM_of rfl mj_k185
  | 36, h => cases h; exact mj_chkM_of rfl mj_k186
  | 37, h => cases h; exact mj_chkM_of rfl mj_k187
  | 38, h => cases h; exact mj_chkM_of rfl mj_k188
  | 39, h => cases h; exact mj_chkM_of rfl mj_k189
  | 40, h => cases h; exact mj_chkM_of rfl mj_k190
  | 41, h => cases h; exact mj_chkM_of rfl mj_k191
  | 42, h => cases h; exact mj_chkM_of rfl mj_k192
  | 43, h => cases h; exact mj_chkM_of rfl mj_k193
  | 44, h => cases h; exact mj_chkM_of rfl mj_k194
  | 45, h => cases h; exact mj_chkM_of rfl mj_k195
  | 46, h => cases h; exact mj_chkM_of rfl mj_k196
  | 47, h => cases h; exact mj_chkM_of rfl mj_k197
  | 48, h => cases h; exact mj_chkM_of rfl mj_k198
  | 49, h => cases h; exact mj_chkM_of rfl mj_k199
  | j + 50, h => simp [mj_P_3] at h
