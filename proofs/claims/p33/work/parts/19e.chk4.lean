theorem mj_k200 : mj_chkM mj_m200 mj_l200 = true := (by first | exact mj_chkR_of (i := 1670) rfl rfl (by decide +kernel) | exact mj_chkN_of (by decide +kernel))
theorem mj_k201 : mj_chkM mj_m201 mj_l201 = true := (by first | exact mj_chkR_of (i := 1568) rfl rfl (by decide +kernel) | exact mj_chkN_of (by decide +kernel))
theorem mj_k202 : mj_chkM mj_m202 mj_l202 = true := (by first | exact mj_chkR_of (i := 1649) rfl rfl (by decide +kernel) | exact mj_chkN_of (by decide +kernel))
theorem mj_k203 : mj_chkM mj_m203 mj_l203 = true := (by first | exact mj_chkR_of (i := 1645) rfl rfl (by decide +kernel) | exact mj_chkN_of (by decide +kernel))
theorem mj_k204 : mj_chkM mj_m204 mj_l204 = true := (by first | exact mj_chkR_of (i := 1666) rfl rfl (by decide +kernel) | exact mj_chkN_of (by decide +kernel))
theorem mj_k205 : mj_chkM mj_m205 mj_l205 = true := (by first | exact mj_chkR_of (i := 1617) rfl rfl (by decide +kernel) | exact mj_chkN_of (by decide +kernel))
theorem mj_k206 : mj_chkM mj_m206 mj_l206 = true := (by first | exact mj_chkR_of (i := 1678) rfl rfl (by decide +kernel) | exact mj_chkN_of (by decide +kernel))
theorem mj_k207 : mj_chkM mj_m207 mj_l207 = true := (by first | exact mj_chkR_of (i := 1706) rfl rfl (by decide +kernel) | exact mj_chkN_of (by decide +kernel))
theorem mj_k208 : mj_chkM mj_m208 mj_l208 = true := (by first | exact mj_chkR_of (i := 1741) rfl rfl (by decide +kernel) | exact mj_chkN_of (by decide +kernel))
theorem mj_k209 : mj_chkM mj_m209 mj_l209 = true := (by first | exact mj_chkR_of (i := 1733) rfl rfl (by decide +kernel) | exact mj_chkN_of (by decide +kernel))
theorem mj_k210 : mj_chkM mj_m210 mj_l210 = true := (by first | exact mj_chkR_of (i := 1729) rfl rfl (by decide +kernel) | exact mj_chkN_of (by decide +kernel))
theorem mj_k211 : mj_chkM mj_m211 mj_l211 = true := (by first | exact mj_chkR_of (i := 1698) rfl rfl (by decide +kernel) | exact mj_chkN_of (by decide +kernel))
theorem mj_k212 : mj_chkM mj_m212 mj_l212 = true := (by first | exact mj_chkR_of (i := 1725) rfl rfl (by decide +kernel) | exact mj_chkN_of (by decide +kernel))
theorem mj_k213 : mj_chkM mj_m213 mj_l213 = true := (by first | exact mj_chkR_of (i := 1757) rfl rfl (by decide +kernel) | exact mj_chkN_of (by decide +kernel))
theorem mj_k214 : mj_chkM mj_m214 mj_l214 = true := (by first | exact mj_chkR_of (i := 1753) rfl rfl (by decide +kernel) | exact mj_chkN_of (by decide +kernel))
theorem mj_k215 : mj_chkM mj_m215 mj_l215 = true := (by first | exact mj_chkR_of (i := 1915) rfl rfl (by decide +kernel) | exact mj_chkN_of (by decide +kernel))
theorem mj_k216 : mj_chkM mj_m216 mj_l216 = true := (by first | exact mj_chkR_of (i := 1966) rfl rfl (by decide +kernel) | exact mj_chkN_of (by decide +kernel))
theorem mj_k217 : mj_chkM mj_m217 mj_l217 = true := (by first | exact mj_chkR_of (i := 1974) rfl rfl (by decide +kernel) | exact mj_chkN_of (by decide +kernel))
theorem mj_k218 : mj_chkM mj_m218 mj_l218 = true := (by first | exact mj_chkR_of (i := 1970) rfl rfl (by decide +kernel) | exact mj_chkN_of (by decide +kernel))
theorem mj_k219 : mj_chkM mj_m219 mj_l219 = true := (by first | exact mj_chkR_of (i := 2003) rfl rfl (by decide +kernel) | exact mj_chkN_of (by decide +kernel))
theorem mj_k220 : mj_chkM mj_m220 mj_l220 = true := (by first | exact mj_chkR_of (i := 1999) rfl rfl (by decide +kernel) | exact mj_chkN_of (by decide +kernel))
theorem mj_k221 : mj_chkM mj_m221 mj_l221 = true := (by first | exact mj_chkR_of (i := 1919) rfl rfl (by decide +kernel) | exact mj_chkN_of (by decide +kernel))
theorem mj_k222 : mj_chkM mj_m222 mj_l222 = true := (by first | exact mj_chkR_of (i := 1894) rfl rfl (by decide +kernel) | exact mj_chkN_of (by decide +kernel))
theorem mj_k223 : mj_chkM mj_m223 mj_l223 = true := (by first | exact mj_chkR_of (i := 1549) rfl rfl (by decide +kernel) | exact mj_chkN_of (by decide +kernel))
theorem mj_k224 : mj_chkM mj_m224 mj_l224 = true := (by first | exact mj_chkR_of (i := 1546) rfl rfl (by decide +kernel) | exact mj_chkN_of (by decide +kernel))
theorem mj_k225 : mj_chkM mj_m225 mj_l225 = true := (by first | exact mj_chkR_of (i := 1690) rfl rfl (by decide +kernel) | exact mj_chkN_of (by decide +kernel))
theorem mj_k226 : mj_chkM mj_m226 mj_l226 = true := (by first | exact mj_chkR_of (i := 1694) rfl rfl (by decide +kernel) | exact mj_chkN_of (by decide +kernel))
theorem mj_k227 : mj_chkM mj_m227 mj_l227 = true := (by first | exact mj_chkR_of (i := 1621) rfl rfl (by decide +kernel) | exact mj_chkN_of (by decide +kernel))
theorem mj_k228 : mj_chkM mj_m228 mj_l228 = true := (by first | exact mj_chkR_of (i := 1625) rfl rfl (by decide +kernel) | exact mj_chkN_of (by decide +kernel))
theorem mj_k229 : mj_chkM mj_m229 mj_l229 = true := (by first | exact mj_chkR_of (i := 1613) rfl rfl (by decide +kernel) | exact mj_chkN_of (by decide +kernel))
theorem mj_k230 : mj_chkM mj_m230 mj_l230 = true := (by first | exact mj_chkR_of (i := 1539) rfl rfl (by decide +kernel) | exact mj_chkN_of (by decide +kernel))
theorem mj_k231 : mj_chkM mj_m231 mj_l231 = true := (by first | exact mj_chkR_of (i := 1637) rfl rfl (by decide +kernel) | exact mj_chkN_of (by decide +kernel))
theorem mj_k232 : mj_chkM mj_m232 mj_l232 = true := (by first | exact mj_chkR_of (i := 1543) rfl rfl (by decide +kernel) | exact mj_chkN_of (by decide +kernel))
theorem mj_k233 : mj_chkM mj_m233 mj_l233 = true := (by first | exact mj_chkR_of (i := 1641) rfl rfl (by decide +kernel) | exact mj_chkN_of (by decide +kernel))
theorem mj_k234 : mj_chkM mj_m234 mj_l234 = true := (by first | exact mj_chkR_of (i := 1661) rfl rfl (by decide +kernel) | exact mj_chkN_of (by decide +kernel))
theorem mj_k235 : mj_chkM mj_m235 mj_l235 = true := (by first | exact mj_chkR_of (i := 1674) rfl rfl (by decide +kernel) | exact mj_chkN_of (by decide +kernel))
theorem mj_k236 : mj_chkM mj_m236 mj_l236 = true := (by first | exact mj_chkR_of (i := 1682) rfl rfl (by decide +kernel) | exact mj_chkN_of (by decide +kernel))
theorem mj_k237 : mj_chkM mj_m237 mj_l237 = true := (by first | exact mj_chkR_of (i := 1686) rfl rfl (by decide +kernel) | exact mj_chkN_of (by decide +kernel))
theorem mj_k238 : mj_chkM mj_m238 mj_l238 = true := (by first | exact mj_chkR_of (i := 1702) rfl rfl (by decide +kernel) | exact mj_chkN_of (by decide +kernel))
theorem mj_k239 : mj_chkM mj_m239 mj_l239 = true := (by first | exact mj_chkR_of (i := 1745) rfl rfl (by decide +kernel) | exact mj_chkN_of (by decide +kernel))
theorem mj_k240 : mj_chkM mj_m240 mj_l240 = true := (by first | exact mj_chkR_of (i := 1749) rfl rfl (by decide +kernel) | exact mj_chkN_of (by decide +kernel))
theorem mj_k241 : mj_chkM mj_m241 mj_l241 = true := (by first | exact mj_chkR_of (i := 1764) rfl rfl (by decide +kernel) | exact mj_chkN_of (by decide +kernel))
theorem mj_k242 : mj_chkM mj_m242 mj_l242 = true := (by first | exact mj_chkR_of (i := 1770) rfl rfl (by decide +kernel) | exact mj_chkN_of (by decide +kernel))
theorem mj_k243 : mj_chkM mj_m243 mj_l243 = true := (by first | exact mj_chkR_of (i := 1761) rfl rfl (by decide +kernel) | exact mj_chkN_of (by decide +kernel))
theorem mj_k244 : mj_chkM mj_m244 mj_l244 = true := (by first | exact mj_chkR_of (i := 1774) rfl rfl (by decide +kernel) | exact mj_chkN_of (by decide +kernel))
theorem mj_k245 : mj_chkM mj_m245 mj_l245 = true := (by first | exact mj_chkR_of (i := 1780) rfl rfl (by decide +kernel) | exact mj_chkN_of (by decide +kernel))
theorem mj_k246 : mj_chkM mj_m246 mj_l246 = true := (by first | exact mj_chkR_of (i := 1843) rfl rfl (by decide +kernel) | exact mj_chkN_of (by decide +kernel))
theorem mj_k247 : mj_chkM mj_m247 mj_l247 = true := (by first | exact mj_chkR_of (i := 1851) rfl rfl (by decide +kernel) | exact mj_chkN_of (by decide +kernel))
theorem mj_k248 : mj_chkM mj_m248 mj_l248 = true := (by first | exact mj_chkR_of (i := 1862) rfl rfl (by decide +kernel) | exact mj_chkN_of (by decide +kernel))
theorem mj_k249 : mj_chkM mj_m249 mj_l249 = true := (by first | exact mj_chkR_of (i := 1859) rfl rfl (by decide +kernel) | exact mj_chkN_of (by decide +kernel))
theorem mj_K_4 : ∀ (j : Nat) (M : mj_M), mj_P_4[j]? = some M → mj_okA mj_P mj_Thr M := by
  intro j M h
  match j, h with
  | 0, h => cases h; exact mj_chkM_of rfl mj_k200
  | 1, h => cases h; exact mj_chkM_of rfl mj_k201
  | 2, h => cases h; exact mj_chkM_of rfl mj_k202
  | 3, h => cases h; exact mj_chkM_of rfl mj_k203
  | 4, h => cases h; exact mj_chkM_of rfl mj_k204
  | 5, h => cases h; exact mj_chkM_of rfl mj_k205
  | 6, h => cases h; exact mj_chkM_of rfl mj_k206
  | 7, h => cases h; exact mj_chkM_of rfl mj_k207
  | 8, h => cases h; exact mj_chkM_of rfl mj_k208
  | 9, h => cases h; exact mj_chkM_of rfl mj_k209
  | 10, h => cases h; exact mj_chkM_of rfl mj_k210
  | 11, h => cases h; exact mj_chkM_of rfl mj_k211
  | 12, h => cases h; exact mj_chkM_of rfl mj_k212
  | 13, h => cases h; exact mj_chkM_of rfl mj_k213
  | 14, h => cases h; exact mj_chkM_of rfl mj_k214
  | 15, h => cases h; exact mj_chkM_of rfl mj_k215
  | 16, h => cases h; exact mj_chkM_of rfl mj_k216
  | 17, h => cases h; exact mj_chkM_of rfl mj_k217
  | 18, h => cases h; exact mj_chkM_of rfl mj_k218
  | 19, h => cases h; exact mj_chkM_of rfl mj_k219
  | 20, h => cases h; exact mj_chkM_of rfl mj_k220
  | 21, h => cases h; exact mj_chkM_of rfl mj_k221
  | 22, h => cases h; exact mj_chkM_of rfl mj_k222
  | 23, h => cases h; exact mj_chkM_of rfl mj_k223
  | 24, h => cases h; exact mj_chkM_of rfl mj_k224
  | 25, h => cases h; exact mj_chkM_of rfl mj_k225
  | 26, h => cases h; exact mj_chkM_of rfl mj_k226
  | 27, h => cases h; exact mj_chkM_of rfl mj_k227
  | 28, h => cases h; exact mj_chkM_of rfl mj_k228
  | 29, h => cases h; exact mj_chkM_of rfl mj_k229
  | 30, h => cases h; exact mj_chkM_of rfl mj_k230
  | 31, h => cases h; exact mj_chkM_of rfl mj_k231
  | 32, h => cases h; exact mj_chkM_of rfl mj_k232
  | 33, h => cases h; exact mj_chkM_of rfl mj_k233
  | 34, h => cases h; exact mj_chkM_of rfl mj_k234
  | 35, h => cases h; exact mj_chkM_of rfl mj_k235
  | 36, h => cases h; exact mj_chkM_of rfl mj_k236
  | 37, h => cases h; exact mj_chkM_of rfl mj_k237
  | 38, h => cases h; exact mj_chkM_of rfl mj_k238
  | 39, h => cases h; exact mj_chkM_of rfl mj_k239
  | 40, h => cases h; exact mj_chkM_of rfl mj_k240
  | 41, h => cases h; exact mj_chkM_of rfl mj_k241
  | 42, h => cases h; exact mj_chkM_of rfl mj_k242
  | 43, h => cases h; exact mj_chkM_of rfl mj_k243
  | 44, h => cases h; exact mj_chkM_of rfl mj_k244
  | 45, h => cases h; exact mj_chkM_of rfl mj_k245
  | 46, h => cases h; exact mj_chkM_of rfl mj_k246
  | 47, h => cases h; exact mj_chkM_of rfl mj_k247
  | 48, h => cases h; exact mj_chkM_of rfl mj_k248
  | 49, h => cases h; exact mj_chkM_of rfl mj_k249
  | j + 50, h => simp [mj_P_4] at h
