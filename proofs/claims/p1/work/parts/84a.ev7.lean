/-! Evaluations: changes, rootsBetween but for register 1. -/
set_option maxRecDepth 1000000 in
theorem mq_v32_0 : mq_try mq_t6 (mq_env 32 0 2147483648 0 4294967295 0 4294967295 0 4294967295 0 4294967295) = true := by decide +kernel
set_option maxRecDepth 1000000 in
theorem mq_v32_1 : mq_try mq_t6 (mq_env 32 2147483649 2147483649 0 4294967295 0 4294967295 0 4294967295 0 4294967295) = true := by decide +kernel
set_option maxRecDepth 1000000 in
theorem mq_v32_2 : mq_try mq_t6 (mq_env 32 2147483650 4294967295 0 4294967295 0 4294967295 0 4294967295 0 4294967295) = true := by decide +kernel
set_option maxRecDepth 1000000 in
theorem mq_v30_0 : mq_try mq_t6 (mq_env 30 0 2147483648 0 4294967295 0 4294967295 0 4294967295 0 4294967295) = true := by decide +kernel
set_option maxRecDepth 1000000 in
theorem mq_v30_5 : mq_try mq_t6 (mq_env 30 2147483650 4294967295 0 4294967295 0 4294967295 0 4294967295 0 4294967295) = true := by decide +kernel
