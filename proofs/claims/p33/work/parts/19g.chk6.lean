theorem mj_k300 : mj_chkM mj_m300 mj_l300 = true := (by first | exact mj_chkR_of (i := 1827) rfl rfl (by decide +kernel) | exact mj_chkN_of (by decide +kernel))
theorem mj_k301 : mj_chkM mj_m301 mj_l301 = true := (by first | exact mj_chkR_of (i := 1831) rfl rfl (by decide +kernel) | exact mj_chkN_of (by decide +kernel))
theorem mj_k302 : mj_chkM mj_m302 mj_l302 = true := (by first | exact mj_chkR_of (i := 2056) rfl rfl (by decide +kernel) | exact mj_chkN_of (by decide +kernel))
theorem mj_k303 : mj_chkM mj_m303 mj_l303 = true := (by first | exact mj_chkR_of (i := 2064) rfl rfl (by decide +kernel) | exact mj_chkN_of (by decide +kernel))
theorem mj_k304 : mj_chkM mj_m304 mj_l304 = true := (by first | exact mj_chkR_of (i := 2060) rfl rfl (by decide +kernel) | exact mj_chkN_of (by decide +kernel))
theorem mj_k305 : mj_chkM mj_m305 mj_l305 = true := (by first | exact mj_chkR_of (i := 2052) rfl rfl (by decide +kernel) | exact mj_chkN_of (by decide +kernel))
theorem mj_k306 : mj_chkM mj_m306 mj_l306 = true := (by first | exact mj_chkR_of (i := 2068) rfl rfl (by decide +kernel) | exact mj_chkN_of (by decide +kernel))
theorem mj_k307 : mj_chkM mj_m307 mj_l307 = true := (by first | exact mj_chkR_of (i := 2072) rfl rfl (by decide +kernel) | exact mj_chkN_of (by decide +kernel))
theorem mj_k308 : mj_chkM mj_m308 mj_l308 = true := (by first | exact mj_chkR_of (i := 2077) rfl rfl (by decide +kernel) | exact mj_chkN_of (by decide +kernel))
theorem mj_k309 : mj_chkM mj_m309 mj_l309 = true := (by first | exact mj_chkR_of (i := 2082) rfl rfl (by decide +kernel) | exact mj_chkN_of (by decide +kernel))
theorem mj_k310 : mj_chkM mj_m310 mj_l310 = true := (by first | exact mj_chkR_of (i := 730) rfl rfl (by decide +kernel) | exact mj_chkN_of (by decide +kernel))
theorem mj_k311 : mj_chkM mj_m311 mj_l311 = true := (by first | exact mj_chkR_of (i := 862) rfl rfl (by decide +kernel) | exact mj_chkN_of (by decide +kernel))
theorem mj_k312 : mj_chkM mj_m312 mj_l312 = true := (by first | exact mj_chkR_of (i := 869) rfl rfl (by decide +kernel) | exact mj_chkN_of (by decide +kernel))
theorem mj_k313 : mj_chkM mj_m313 mj_l313 = true := (by first | exact mj_chkR_of (i := 877) rfl rfl (by decide +kernel) | exact mj_chkN_of (by decide +kernel))
theorem mj_k314 : mj_chkM mj_m314 mj_l314 = true := (by first | exact mj_chkR_of (i := 904) rfl rfl (by decide +kernel) | exact mj_chkN_of (by decide +kernel))
theorem mj_k315 : mj_chkM mj_m315 mj_l315 = true := (by first | exact mj_chkR_of (i := 915) rfl rfl (by decide +kernel) | exact mj_chkN_of (by decide +kernel))
theorem mj_k316 : mj_chkM mj_m316 mj_l316 = true := (by first | exact mj_chkR_of (i := 926) rfl rfl (by decide +kernel) | exact mj_chkN_of (by decide +kernel))
theorem mj_k317 : mj_chkM mj_m317 mj_l317 = true := (by first | exact mj_chkR_of (i := 969) rfl rfl (by decide +kernel) | exact mj_chkN_of (by decide +kernel))
theorem mj_k318 : mj_chkM mj_m318 mj_l318 = true := (by first | exact mj_chkR_of (i := 1095) rfl rfl (by decide +kernel) | exact mj_chkN_of (by decide +kernel))
theorem mj_k319 : mj_chkM mj_m319 mj_l319 = true := (by first | exact mj_chkR_of (i := 1103) rfl rfl (by decide +kernel) | exact mj_chkN_of (by decide +kernel))
theorem mj_k320 : mj_chkM mj_m320 mj_l320 = true := (by first | exact mj_chkR_of (i := 1130) rfl rfl (by decide +kernel) | exact mj_chkN_of (by decide +kernel))
theorem mj_k321 : mj_chkM mj_m321 mj_l321 = true := (by first | exact mj_chkR_of (i := 1143) rfl rfl (by decide +kernel) | exact mj_chkN_of (by decide +kernel))
theorem mj_k322 : mj_chkM mj_m322 mj_l322 = true := (by first | exact mj_chkR_of (i := 1150) rfl rfl (by decide +kernel) | exact mj_chkN_of (by decide +kernel))
theorem mj_k323 : mj_chkM mj_m323 mj_l323 = true := (by first | exact mj_chkR_of (i := 1157) rfl rfl (by decide +kernel) | exact mj_chkN_of (by decide +kernel))
theorem mj_k324 : mj_chkM mj_m324 mj_l324 = true := (by first | exact mj_chkR_of (i := 1169) rfl rfl (by decide +kernel) | exact mj_chkN_of (by decide +kernel))
theorem mj_k325 : mj_chkM mj_m325 mj_l325 = true := (by first | exact mj_chkR_of (i := 1199) rfl rfl (by decide +kernel) | exact mj_chkN_of (by decide +kernel))
theorem mj_k326 : mj_chkM mj_m326 mj_l326 = true := (by first | exact mj_chkR_of (i := 1206) rfl rfl (by decide +kernel) | exact mj_chkN_of (by decide +kernel))
theorem mj_k327 : mj_chkM mj_m327 mj_l327 = true := (by first | exact mj_chkR_of (i := 1213) rfl rfl (by decide +kernel) | exact mj_chkN_of (by decide +kernel))
theorem mj_k328 : mj_chkM mj_m328 mj_l328 = true := (by first | exact mj_chkR_of (i := 1220) rfl rfl (by decide +kernel) | exact mj_chkN_of (by decide +kernel))
theorem mj_k329 : mj_chkM mj_m329 mj_l329 = true := (by first | exact mj_chkR_of (i := 1231) rfl rfl (by decide +kernel) | exact mj_chkN_of (by decide +kernel))
theorem mj_k330 : mj_chkM mj_m330 mj_l330 = true := (by first | exact mj_chkR_of (i := 1238) rfl rfl (by decide +kernel) | exact mj_chkN_of (by decide +kernel))
theorem mj_k331 : mj_chkM mj_m331 mj_l331 = true := (by first | exact mj_chkR_of (i := 1271) rfl rfl (by decide +kernel) | exact mj_chkN_of (by decide +kernel))
theorem mj_k332 : mj_chkM mj_m332 mj_l332 = true := (by first | exact mj_chkR_of (i := 1283) rfl rfl (by decide +kernel) | exact mj_chkN_of (by decide +kernel))
theorem mj_k333 : mj_chkM mj_m333 mj_l333 = true := (by first | exact mj_chkR_of (i := 1290) rfl rfl (by decide +kernel) | exact mj_chkN_of (by decide +kernel))
theorem mj_k334 : mj_chkM mj_m334 mj_l334 = true := (by first | exact mj_chkR_of (i := 1297) rfl rfl (by decide +kernel) | exact mj_chkN_of (by decide +kernel))
theorem mj_k335 : mj_chkM mj_m335 mj_l335 = true := (by first | exact mj_chkR_of (i := 1308) rfl rfl (by decide +kernel) | exact mj_chkN_of (by decide +kernel))
theorem mj_k336 : mj_chkM mj_m336 mj_l336 = true := (by first | exact mj_chkR_of (i := 1326) rfl rfl (by decide +kernel) | exact mj_chkN_of (by decide +kernel))
theorem mj_k337 : mj_chkM mj_m337 mj_l337 = true := (by first | exact mj_chkR_of (i := 1347) rfl rfl (by decide +kernel) | exact mj_chkN_of (by decide +kernel))
theorem mj_k338 : mj_chkM mj_m338 mj_l338 = true := (by first | exact mj_chkR_of (i := 1354) rfl rfl (by decide +kernel) | exact mj_chkN_of (by decide +kernel))
theorem mj_k339 : mj_chkM mj_m339 mj_l339 = true := (by first | exact mj_chkR_of (i := 1361) rfl rfl (by decide +kernel) | exact mj_chkN_of (by decide +kernel))
theorem mj_k340 : mj_chkM mj_m340 mj_l340 = true := (by first | exact mj_chkR_of (i := 1387) rfl rfl (by decide +kernel) | exact mj_chkN_of (by decide +kernel))
theorem mj_k341 : mj_chkM mj_m341 mj_l341 = true := (by first | exact mj_chkR_of (i := 1400) rfl rfl (by decide +kernel) | exact mj_chkN_of (by decide +kernel))
theorem mj_k342 : mj_chkM mj_m342 mj_l342 = true := (by first | exact mj_chkR_of (i := 1407) rfl rfl (by decide +kernel) | exact mj_chkN_of (by decide +kernel))
theorem mj_k343 : mj_chkM mj_m343 mj_l343 = true := (by first | exact mj_chkR_of (i := 1417) rfl rfl (by decide +kernel) | exact mj_chkN_of (by decide +kernel))
theorem mj_k344 : mj_chkM mj_m344 mj_l344 = true := (by first | exact mj_chkR_of (i := 1440) rfl rfl (by decide +kernel) | exact mj_chkN_of (by decide +kernel))
theorem mj_k345 : mj_chkM mj_m345 mj_l345 = true := (by first | exact mj_chkR_of (i := 1454) rfl rfl (by decide +kernel) | exact mj_chkN_of (by decide +kernel))
theorem mj_k346 : mj_chkM mj_m346 mj_l346 = true := (by first | exact mj_chkR_of (i := 1461) rfl rfl (by decide +kernel) | exact mj_chkN_of (by decide +kernel))
theorem mj_K_6 : ∀ (j : Nat) (M : mj_M), mj_P_6[j]? = some M → mj_okA mj_P mj_Thr M := by
  intro j M h
  match j, h with
  | 0, h => cases h; exact mj_chkM_of rfl mj_k300
  | 1, h => cases h; exact mj_chkM_of rfl mj_k301
  | 2, h => cases h; exact mj_chkM_of rfl mj_k302
  | 3, h => cases h; exact mj_chkM_of rfl mj_k303
  | 4, h => cases h; exact mj_chkM_of rfl mj_k304
  | 5, h => cases h; exact mj_chkM_of rfl mj_k305
  | 6, h => cases h; exact mj_chkM_of rfl mj_k306
  | 7, h => cases h; exact mj_chkM_of rfl mj_k307
  | 8, h => cases h; exact mj_chkM_of rfl mj_k308
  | 9, h => cases h; exact mj_chkM_of rfl mj_k309
  | 10, h => cases h; exact mj_chkM_of rfl mj_k310
  | 11, h => cases h; exact mj_chkM_of rfl mj_k311
  | 12, h => cases h; exact mj_chkM_of rfl mj_k312
  | 13, h => cases h; exact mj_chkM_of rfl mj_k313
  | 14, h => cases h; exact mj_chkM_of rfl mj_k314
  | 15, h => cases h; exact mj_chkM_of rfl mj_k315
  | 16, h => cases h; exact mj_chkM_of rfl mj_k316
  | 17, h => cases h; exact mj_chkM_of rfl mj_k317
  | 18, h => cases h; exact mj_chkM_of rfl mj_k318
  | 19, h => cases h; exact mj_chkM_of rfl mj_k319
  | 20, h => cases h; exact mj_chkM_of rfl mj_k320
  | 21, h => cases h; exact mj_chkM_of rfl mj_k321
  | 22, h => cases h; exact mj_chkM_of rfl mj_k322
  | 23, h => cases h; exact mj_chkM_of rfl mj_k323
  | 24, h => cases h; exact mj_chkM_of rfl mj_k324
  | 25, h => cases h; exact mj_chkM_of rfl mj_k325
  | 26, h => cases h; exact mj_chkM_of rfl mj_k326
  | 27, h => cases h; exact mj_chkM_of rfl mj_k327
  | 28, h => cases h; exact mj_chkM_of rfl mj_k328
  | 29, h => cases h; exact mj_chkM_of rfl mj_k329
  | 30, h => cases h; exact mj_chkM_of rfl mj_k330
  | 31, h => cases h; exact mj_chkM_of rfl mj_k331
  | 32, h => cases h; exact mj_chkM_of rfl mj_k332
  | 33, h => cases h; exact mj_chkM_of rfl mj_k333
  | 34, h => cases h; exact mj_chkM_of rfl mj_k334
  | 35, h => cases h; exact mj_chkM_of rfl mj_k335
  | 36, h => cases h; exact mj_chkM_of rfl mj_k336
  | 37, h => cases h; exact mj_chkM_of rfl mj_k337
  | 38, h => cases h; exact mj_chkM_of rfl mj_k338
  | 39, h => cases h; exact mj_chkM_of rfl mj_k339
  | 40, h => cases h; exact mj_chkM_of rfl mj_k340
  | 41, h => cases h; exact mj_chkM_of rfl mj_k341
  | 42, h => cases h; exact mj_chkM_of rfl mj_k342
  | 43, h => cases h; exact mj_chkM_of rfl mj_k343
  | 44, h => cases h; exact mj_chkM_of rfl mj_k344
  | 45, h => cases h; exact mj_chkM_of rfl mj_k345
  | 46, h => cases h; exact mj_chkM_of rfl mj_k346
  | j + 47, h => simp [mj_P_6] at h
