/-! Evaluations: add, subtract, multiply. -/
set_option maxRecDepth 1000000 in
theorem mq_v0_0 : mq_try mq_t6 (mq_env 0 0 4294967295 0 4294967295 0 4294967295 0 4294967295 0 4294967295) = true := by decide +kernel
set_option maxRecDepth 1000000 in
theorem mq_v1_0 : mq_try mq_t6 (mq_env 1 0 4294967295 0 4294967295 0 4294967295 0 4294967295 0 4294967295) = true := by decide +kernel
set_option maxRecDepth 1000000 in
theorem mq_v2_0 : mq_try mq_t6 (mq_env 2 0 4294967295 0 2147483649 0 4294967295 0 4294967295 0 4294967295) = true := by decide +kernel
set_option maxRecDepth 1000000 in
theorem mq_v2_1 : mq_try mq_t6 (mq_env 2 0 4294967295 2147483650 4294967295 0 4294967295 0 4294967295 0 4294967295) = true := by decide +kernel
