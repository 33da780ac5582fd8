/-! Evaluations: short scripts, no op, small ops. -/
set_option maxRecDepth 1000000 in
theorem mq_vL0 : mq_try (mq_tL 0) [] = true := by decide +kernel
set_option maxRecDepth 1000000 in
theorem mq_vL1 : mq_try (mq_tL 1) [] = true := by decide +kernel
set_option maxRecDepth 1000000 in
theorem mq_vL2 : mq_try (mq_tL 2) [] = true := by decide +kernel
set_option maxRecDepth 1000000 in
theorem mq_vL3 : mq_try (mq_tL 3) [] = true := by decide +kernel
set_option maxRecDepth 1000000 in
theorem mq_vL4 : mq_try (mq_tL 4) [] = true := by decide +kernel
set_option maxRecDepth 1000000 in
theorem mq_vL5 : mq_try (mq_tL 5) [] = true := by decide +kernel
set_option maxRecDepth 1000000 in
theorem mq_vD : (mq_all 17 fun i => mq_try mq_t6 (mq_env (Nat.add 47 i) 0 4294967295 0 4294967295 0 4294967295 0 4294967295 0 4294967295)) = true := by decide +kernel
set_option maxRecDepth 1000000 in
theorem mq_v12_0 : mq_try mq_t6 (mq_env 12 0 4294967295 0 4294967295 0 4294967295 0 4294967295 0 4294967295) = true := by decide +kernel
set_option maxRecDepth 1000000 in
theorem mq_v13_0 : mq_try mq_t6 (mq_env 13 0 4294967295 0 4294967295 0 4294967295 0 4294967295 0 4294967295) = true := by decide +kernel
set_option maxRecDepth 1000000 in
theorem mq_v14_0 : mq_try mq_t6 (mq_env 14 0 4294967295 0 4294967295 0 4294967295 0 4294967295 0 4294967295) = true := by decide +kernel
set_option maxRecDepth 1000000 in
theorem mq_v15_0 : mq_try mq_t6 (mq_env 15 0 4294967295 0 4294967295 0 4294967295 0 4294967295 0 4294967295) = true := by decide +kernel
set_option maxRecDepth 1000000 in
theorem mq_v16_0 : mq_try mq_t6 (mq_env 16 0 4294967295 0 4294967295 0 4294967295 0 4294967295 0 4294967295) = true := by decide +kernel
set_option maxRecDepth 1000000 in
theorem mq_v17_0 : mq_try mq_t6 (mq_env 17 0 4294967295 0 4294967295 0 4294967295 0 4294967295 0 4294967295) = true := by decide +kernel
set_option maxRecDepth 1000000 in
theorem mq_v18_0 : mq_try mq_t6 (mq_env 18 0 4294967295 0 4294967295 0 4294967295 0 4294967295 0 4294967295) = true := by decide +kernel
set_option maxRecDepth 1000000 in
theorem mq_v19_0 : mq_try mq_t6 (mq_env 19 0 4294967295 0 4294967295 0 4294967295 0 4294967295 0 4294967295) = true := by decide +kernel
set_option maxRecDepth 1000000 in
theorem mq_v20_0 : mq_try mq_t6 (mq_env 20 0 4294967295 0 4294967295 0 4294967295 0 4294967295 0 4294967295) = true := by decide +kernel
set_option maxRecDepth 1000000 in
theorem mq_v21_0 : mq_try mq_t6 (mq_env 21 0 4294967295 0 4294967295 0 4294967295 0 4294967295 0 4294967295) = true := by decide +kernel
set_option maxRecDepth 1000000 in
theorem mq_v22_0 : mq_try mq_t6 (mq_env 22 0 4294967295 0 4294967295 0 4294967295 0 4294967295 0 4294967295) = true := by decide +kernel
set_option maxRecDepth 1000000 in
theorem mq_v24_0 : mq_try mq_t6 (mq_env 24 0 4294967295 0 4294967295 0 4294967295 0 4294967295 0 4294967295) = true := by decide +kernel
set_option maxRecDepth 1000000 in
theorem mq_v26_0 : mq_try mq_t6 (mq_env 26 0 4294967295 0 4294967295 0 4294967295 0 4294967295 0 4294967295) = true := by decide +kernel
set_option maxRecDepth 1000000 in
theorem mq_v27_0 : mq_try mq_t6 (mq_env 27 0 4294967295 0 4294967295 0 4294967295 0 4294967295 0 4294967295) = true := by decide +kernel
set_option maxRecDepth 1000000 in
theorem mq_v28_0 : mq_try mq_t6 (mq_env 28 0 4294967295 0 4294967295 0 4294967295 0 4294967295 0 4294967295) = true := by decide +kernel
set_option maxRecDepth 1000000 in
theorem mq_v38_0 : mq_try mq_t6 (mq_env 38 0 4294967295 0 4294967295 0 4294967295 0 4294967295 0 4294967295) = true := by decide +kernel
set_option maxRecDepth 1000000 in
theorem mq_v39_0 : mq_try mq_t6 (mq_env 39 0 4294967295 0 4294967295 0 4294967295 0 4294967295 0 4294967295) = true := by decide +kernel
set_option maxRecDepth 1000000 in
theorem mq_v40_0 : mq_try mq_t6 (mq_env 40 0 4294967295 0 4294967295 0 4294967295 0 4294967295 0 4294967295) = true := by decide +kernel
set_option maxRecDepth 1000000 in
theorem mq_v41_0 : mq_try mq_t6 (mq_env 41 0 4294967295 0 4294967295 0 4294967295 0 4294967295 0 4294967295) = true := by decide +kernel
set_option maxRecDepth 1000000 in
theorem mq_v42_0 : mq_try mq_t6 (mq_env 42 0 4294967295 0 4294967295 0 4294967295 0 4294967295 0 4294967295) = true := by decide +kernel
set_option maxRecDepth 1000000 in
theorem mq_v43_0 : mq_try mq_t6 (mq_env 43 0 4294967295 0 4294967295 0 4294967295 0 4294967295 0 4294967295) = true := by decide +kernel
set_option maxRecDepth 1000000 in
theorem mq_v44_0 : mq_try mq_t6 (mq_env 44 0 4294967295 0 4294967295 0 4294967295 0 4294967295 0 4294967295) = true := by decide +kernel
set_option maxRecDepth 1000000 in
theorem mq_v45_0 : mq_try mq_t6 (mq_env 45 0 4294967295 0 4294967295 0 4294967295 0 4294967295 0 4294967295) = true := by decide +kernel
