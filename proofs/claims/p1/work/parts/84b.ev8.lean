/-! Evaluations: rootsBetween, register 1. -/
set_option maxRecDepth 1000000 in
theorem mq_v30_1 : mq_try mq_t6 (mq_envG 30 2147483649 2147483649 0 4294967295 0 4294967295 0 4294967295 0 4294967295 0 0 0 2 0 0 0 0) = true := by decide +kernel
set_option maxRecDepth 1000000 in
theorem mq_v30_2 : mq_try mq_t6 (mq_envG 30 2147483649 2147483649 0 4294967295 0 4294967295 0 4294967295 0 4294967295 0 0 0 2 0 0 1 2) = true := by decide +kernel
set_option maxRecDepth 1000000 in
theorem mq_v30_3 : mq_try mq_t6 (mq_envG 30 2147483649 2147483649 0 4294967295 0 4294967295 0 4294967295 0 4294967295 0 0 0 2 1 2 0 0) = true := by decide +kernel
set_option maxRecDepth 1000000 in
theorem mq_v30_4 : mq_try mq_t6 (mq_envG 30 2147483649 2147483649 0 4294967295 0 4294967295 0 4294967295 0 4294967295 0 0 0 2 1 2 1 2) = true := by decide +kernel
set_option maxRecDepth 1000000 in
theorem mq_v30_6 : mq_try mq_t6 (mq_envG 30 2147483649 2147483649 0 4294967295 0 4294967295 0 4294967295 0 4294967295 1 2 0 2 0 0 0 0) = true := by decide +kernel
set_option maxRecDepth 1000000 in
theorem mq_v30_7 : mq_try mq_t6 (mq_envG 30 2147483649 2147483649 0 4294967295 0 4294967295 0 4294967295 0 4294967295 1 2 0 2 0 0 1 2) = true := by decide +kernel
set_option maxRecDepth 1000000 in
theorem mq_v30_8 : mq_try mq_t6 (mq_envG 30 2147483649 2147483649 0 4294967295 0 4294967295 0 4294967295 0 4294967295 1 2 0 2 1 2 0 0) = true := by decide +kernel
set_option maxRecDepth 1000000 in
theorem mq_v30_9 : mq_try mq_t6 (mq_envG 30 2147483649 2147483649 0 4294967295 0 4294967295 0 4294967295 0 4294967295 1 2 0 2 1 2 1 2) = true := by decide +kernel
