theorem mj_k250 : mj_chkM mj_m250 mj_l250 = true := (by first | exact mj_chkR_of (i := 1866) rfl rfl (by decide +kernel) | exact mj_chkN_of (by decide +kernel))
theorem mj_k251 : mj_chkM mj_m251 mj_l251 = true := (by first | exact mj_chkR_of (i := 1855) rfl rfl (by decide +kernel) | exact mj_chkN_of (by decide +kernel))
theorem mj_k252 : mj_chkM mj_m252 mj_l252 = true := (by first | exact mj_chkR_of (i := 1870) rfl rfl (by decide +kernel) | exact mj_chkN_of (by decide +kernel))
theorem mj_k253 : mj_chkM mj_m253 mj_l253 = true := (by first | exact mj_chkR_of (i := 1874) rfl rfl (by decide +kernel) | exact mj_chkN_of (by decide +kernel))
theorem mj_k254 : mj_chkM mj_m254 mj_l254 = true := (by first | exact mj_chkR_of (i := 1882) rfl rfl (by decide +kernel) | exact mj_chkN_of (by decide +kernel))
theorem mj_k255 : mj_chkM mj_m255 mj_l255 = true := (by first | exact mj_chkR_of (i := 1878) rfl rfl (by decide +kernel) | exact mj_chkN_of (by decide +kernel))
theorem mj_k256 : mj_chkM mj_m256 mj_l256 = true := (by first | exact mj_chkR_of (i := 1886) rfl rfl (by decide +kernel) | exact mj_chkN_of (by decide +kernel))
theorem mj_k257 : mj_chkM mj_m257 mj_l257 = true := (by first | exact mj_chkR_of (i := 1890) rfl rfl (by decide +kernel) | exact mj_chkN_of (by decide +kernel))
theorem mj_k258 : mj_chkM mj_m258 mj_l258 = true := (by first | exact mj_chkR_of (i := 1898) rfl rfl (by decide +kernel) | exact mj_chkN_of (by decide +kernel))
theorem mj_k259 : mj_chkM mj_m259 mj_l259 = true := (by first | exact mj_chkR_of (i := 1905) rfl rfl (by decide +kernel) | exact mj_chkN_of (by decide +kernel))
theorem mj_k260 : mj_chkM mj_m260 mj_l260 = true := (by first | exact mj_chkR_of (i := 1911) rfl rfl (by decide +kernel) | exact mj_chkN_of (by decide +kernel))
theorem mj_k261 : mj_chkM mj_m261 mj_l261 = true := (by first | exact mj_chkR_of (i := 1902) rfl rfl (by decide +kernel) | exact mj_chkN_of (by decide +kernel))
theorem mj_k262 : mj_chkM mj_m262 mj_l262 = true := (by first | exact mj_chkR_of (i := 1923) rfl rfl (by decide +kernel) | exact mj_chkN_of (by decide +kernel))
theorem mj_k263 : mj_chkM mj_m263 mj_l263 = true := (by first | exact mj_chkR_of (i := 1931) rfl rfl (by decide +kernel) | exact mj_chkN_of (by decide +kernel))
theorem mj_k264 : mj_chkM mj_m264 mj_l264 = true := (by first | exact mj_chkR_of (i := 1927) rfl rfl (by decide +kernel) | exact mj_chkN_of (by decide +kernel))
theorem mj_k265 : mj_chkM mj_m265 mj_l265 = true := (by first | exact mj_chkR_of (i := 1935) rfl rfl (by decide +kernel) | exact mj_chkN_of (by decide +kernel))
theorem mj_k266 : mj_chkM mj_m266 mj_l266 = true := (by first | exact mj_chkR_of (i := 1946) rfl rfl (by decide +kernel) | exact mj_chkN_of (by decide +kernel))
theorem mj_k267 : mj_chkM mj_m267 mj_l267 = true := (by first | exact mj_chkR_of (i := 1950) rfl rfl (by decide +kernel) | exact mj_chkN_of (by decide +kernel))
theorem mj_k268 : mj_chkM mj_m268 mj_l268 = true := (by first | exact mj_chkR_of (i := 1943) rfl rfl (by decide +kernel) | exact mj_chkN_of (by decide +kernel))
theorem mj_k269 : mj_chkM mj_m269 mj_l269 = true := (by first | exact mj_chkR_of (i := 1954) rfl rfl (by decide +kernel) | exact mj_chkN_of (by decide +kernel))
theorem mj_k270 : mj_chkM mj_m270 mj_l270 = true := (by first | exact mj_chkR_of (i := 1958) rfl rfl (by decide +kernel) | exact mj_chkN_of (by decide +kernel))
theorem mj_k271 : mj_chkM mj_m271 mj_l271 = true := (by first | exact mj_chkR_of (i := 1962) rfl rfl (by decide +kernel) | exact mj_chkN_of (by decide +kernel))
theorem mj_k272 : mj_chkM mj_m272 mj_l272 = true := (by first | exact mj_chkR_of (i := 1978) rfl rfl (by decide +kernel) | exact mj_chkN_of (by decide +kernel))
theorem mj_k273 : mj_chkM mj_m273 mj_l273 = true := (by first | exact mj_chkR_of (i := 1982) rfl rfl (by decide +kernel) | exact mj_chkN_of (by decide +kernel))
theorem mj_k274 : mj_chkM mj_m274 mj_l274 = true := (by first | exact mj_chkR_of (i := 1986) rfl rfl (by decide +kernel) | exact mj_chkN_of (by decide +kernel))
theorem mj_k275 : mj_chkM mj_m275 mj_l275 = true := (by first | exact mj_chkR_of (i := 1994) rfl rfl (by decide +kernel) | exact mj_chkN_of (by decide +kernel))
theorem mj_k276 : mj_chkM mj_m276 mj_l276 = true := (by first | exact mj_chkR_of (i := 1990) rfl rfl (by decide +kernel) | exact mj_chkN_of (by decide +kernel))
theorem mj_k277 : mj_chkM mj_m277 mj_l277 = true := (by first | exact mj_chkR_of (i := 2012) rfl rfl (by decide +kernel) | exact mj_chkN_of (by decide +kernel))
theorem mj_k278 : mj_chkM mj_m278 mj_l278 = true := (by first | exact mj_chkR_of (i := 2008) rfl rfl (by decide +kernel) | exact mj_chkN_of (by decide +kernel))
theorem mj_k279 : mj_chkM mj_m279 mj_l279 = true := (by first | exact mj_chkR_of (i := 2016) rfl rfl (by decide +kernel) | exact mj_chkN_of (by decide +kernel))
theorem mj_k280 : mj_chkM mj_m280 mj_l280 = true := (by first | exact mj_chkR_of (i := 2024) rfl rfl (by decide +kernel) | exact mj_chkN_of (by decide +kernel))
theorem mj_k281 : mj_chkM mj_m281 mj_l281 = true := (by first | exact mj_chkR_of (i := 2020) rfl rfl (by decide +kernel) | exact mj_chkN_of (by decide +kernel))
theorem mj_k282 : mj_chkM mj_m282 mj_l282 = true := (by first | exact mj_chkR_of (i := 2028) rfl rfl (by decide +kernel) | exact mj_chkN_of (by decide +kernel))
theorem mj_k283 : mj_chkM mj_m283 mj_l283 = true := (by first | exact mj_chkR_of (i := 2032) rfl rfl (by decide +kernel) | exact mj_chkN_of (by decide +kernel))
theorem mj_k284 : mj_chkM mj_m284 mj_l284 = true := (by first | exact mj_chkR_of (i := 2040) rfl rfl (by decide +kernel) | exact mj_chkN_of (by decide +kernel))
theorem mj_k285 : mj_chkM mj_m285 mj_l285 = true := (by first | exact mj_chkR_of (i := 2036) rfl rfl (by decide +kernel) | exact mj_chkN_of (by decide +kernel))
theorem mj_k286 : mj_chkM mj_m286 mj_l286 = true := (by first | exact mj_chkR_of (i := 2044) rfl rfl (by decide +kernel) | exact mj_chkN_of (by decide +kernel))
theorem mj_k287 : mj_chkM mj_m287 mj_l287 = true := (by first | exact mj_chkR_of (i := 2048) rfl rfl (by decide +kernel) | exact mj_chkN_of (by decide +kernel))
theorem mj_k288 : mj_chkM mj_m288 mj_l288 = true := (by first | exact mj_chkR_of (i := 1804) rfl rfl (by decide +kernel) | exact mj_chkN_of (by decide +kernel))
theorem mj_k289 : mj_chkM mj_m289 mj_l289 = true := (by first | exact mj_chkR_of (i := 1792) rfl rfl (by decide +kernel) | exact mj_chkN_of (by decide +kernel))
theorem mj_k290 : mj_chkM mj_m290 mj_l290 = true := (by first | exact mj_chkR_of (i := 1788) rfl rfl (by decide +kernel) | exact mj_chkN_of (by decide +kernel))
theorem mj_k291 : mj_chkM mj_m291 mj_l291 = true := (by first | exact mj_chkR_of (i := 1812) rfl rfl (by decide +kernel) | exact mj_chkN_of (by decide +kernel))
theorem mj_k292 : mj_chkM mj_m292 mj_l292 = true := (by first | exact mj_chkR_of (i := 1819) rfl rfl (by decide +kernel) | exact mj_chkN_of (by decide +kernel))
theorem mj_k293 : mj_chkM mj_m293 mj_l293 = true := (by first | exact mj_chkR_of (i := 1784) rfl rfl (by decide +kernel) | exact mj_chkN_of (by decide +kernel))
theorem mj_k294 : mj_chkM mj_m294 mj_l294 = true := (by first | exact mj_chkR_of (i := 1796) rfl rfl (by decide +kernel) | exact mj_chkN_of (by decide +kernel))
theorem mj_k295 : mj_chkM mj_m295 mj_l295 = true := (by first | exact mj_chkR_of (i := 1809) rfl rfl (by decide +kernel) | exact mj_chkN_of (by decide +kernel))
theorem mj_k296 : mj_chkM mj_m296 mj_l296 = true := (by first | exact mj_chkR_of (i := 1800) rfl rfl (by decide +kernel) | exact mj_chkN_of (by decide +kernel))
theorem mj_k297 : mj_chkM mj_m297 mj_l297 = true := (by first | exact mj_chkR_of (i := 1839) rfl rfl (by decide +kernel) | exact mj_chkN_of (by decide +kernel))
theorem mj_k298 : mj_chkM mj_m298 mj_l298 = true := (by first | exact mj_chkR_of (i := 1835) rfl rfl (by decide +kernel) | exact mj_chkN_of (by decide +kernel))
theorem mj_k299 : mj_chkM mj_m299 mj_l299 = true := (by first | exact mj_chkR_of (i := 1823) rfl rfl (by decide +kernel) | exact mj_chkN_of (by decide +kernel))
theorem mj_K_5 : ∀ (j : Nat) (M : mj_M), mj_P_5[j]? = some M → mj_okA mj_P mj_Thr M := by
  intro j M h
  match j, h with
  | 0, h => cases h; exact mj_chkM_of rfl mj_k250
  | 1, h => cases h; exact mj_chkM_of rfl mj_k251
  | 2, h => cases h; exact mj_chkM_of rfl mj_k252
  | 3, h => cases h; exact mj_chkM_of rfl mj_k253
  | 4, h => cases h; exact mj_chkM_of rfl mj_k254
  | 5, h => cases h; exact mj_chkM_of rfl mj_k255
  | 6, h => cases h; exact mj_chkM_of rfl mj_k256
  | 7, h => cases h; exact mj_chkM_of rfl mj_k257
  | 8, h => cases h; exact mj_chkM_of rfl mj_k258
  | 9, h => cases h; exact mj_chkM_of rfl mj_k259
  | 10, h => cases h; exact mj_chkM_of rfl mj_k260
  | 11, h => cases h; exact mj_chkM_of rfl mj_k261
  | 12, h => cases h; exact mj_chkM_of rfl mj_k262
  | 13, h => cases h; exact mj_chkM_of rfl mj_k263
  | 14, h => cases h; exact mj_chkM_of rfl mj_k264
  | 15, h => cases h; exact mj_chkM_of rfl mj_k265
  | 16, h => cases h; exact mj_chkM_of rfl mj_k266
  | 17, h => cases h; exact mj_chkM_of rfl mj_k267
  | 18, h => cases h; exact mj_chkM_of rfl mj_k268
  | 19, h => cases h; exact mj_chkM_of rfl mj_k269
  | 20, h => cases h; exact mj_chkM_of rfl mj_k270
  | 21, h => cases h; exact mj_chkM_of rfl mj_k271
  | 22, h => cases h; exact mj_chkM_of rfl mj_k272
  | 23, h => cases h; exact mj_chkM_of rfl mj_k273
  | 24, h => cases h; exact mj_chkM_of rfl mj_k274
  | 25, h => cases h; exact mj_chkM_of rfl mj_k275
  | 26, h => cases h; exact mj_chkM_of rfl mj_k276
  | 27, h => cases h; exact mj_chkM_of rfl mj_k277
  | 28, h => cases h; exact mj_chkM_of rfl mj_k278
  | 29, h => cases h; exact mj_chkM_of rfl mj_k279
  | 30, h => cases h; exact mj_chkM_of rfl mj_k280
  | 31, h => cases h; exact mj_chkM_of rfl mj_k281
  | 32, h => cases h; exact mj_chkM_of rfl mj_k282
  | 33, h => cases h; exact mj_chkM_of rfl mj_k283
  | 34, h => cases h; exact mj_chkM_of rfl mj_k284
  | 35, h => cases h; exact mj_chkM_of rfl mj_k285
  | 36, h => cases h; exact mj_chkM_of rfl mj_k286
  | 37, h => cases h; exact mj_chkM_of rfl mj_k287
  | 38, h => cases h; exact mj_chkM_of rfl mj_k288
  | 39, h => cases h; exact mj_chkM_of rfl mj_k289
  | 40, h => cases h; exact mj_chkM_of rfl mj_k290
  | 41, h => cases h; exact mj_chkM_of rfl mj_k291
  | 42, h => cases h; exact mj_chkM_of rfl mj_k292
  | 43, h => cases h; exact mj_chkM_of rfl mj_k293
  | 44, h => cases h; exact mj_chkM_of rfl mj_k294
  | 45, h => cases h; exact mj_chkM_of rfl mj_k295
  | 46, h => cases h; exact mj_chkM_of rfl mj_k296
  | 47, h => cases h; exact mj_chkM_of rfl mj_k297
  | 48, h => cases h; exact mj_chkM_of rfl mj_k298
  | 49, h => cases h; exact mj_chkM_of rfl mj_k299
  | j + 50, h => simp [mj_P_5] at h
