/-! Evaluations: divide, gcd. -/
set_option maxRecDepth 1000000 in
theorem mq_v6_0 : mq_try mq_t6 (mq_env 6 0 4294967295 0 4294967295 0 2147483649 0 4294967295 0 4294967295) = true := by decide +kernel
set_option maxRecDepth 1000000 in
theorem mq_v6_1 : mq_try mq_t6 (mq_env 6 0 4294967295 0 4294967295 2147483650 4294967295 0 4294967295 0 4294967295) = true := by decide +kernel
set_option maxRecDepth 1000000 in
theorem mq_v7_0 : mq_try mq_t6 (mq_env 7 0 4294967295 0 2147483648 0 4294967295 0 4294967295 0 4294967295) = true := by decide +kernel
set_option maxRecDepth 1000000 in
theorem mq_v7_1 : mq_try mq_t6 (mq_env 7 0 4294967295 2147483649 2147483649 0 4294967295 0 4294967295 0 4294967295) = true := by decide +kernel
set_option maxRecDepth 1000000 in
theorem mq_v7_2 : mq_try mq_t6 (mq_env 7 0 4294967295 2147483650 2147483651 0 4294967295 0 4294967295 0 4294967295) = true := by decide +kernel
set_option maxRecDepth 1000000 in
theorem mq_v7_3 : mq_try mq_t6 (mq_env 7 0 4294967295 2147483652 4294967295 0 4294967295 0 4294967295 0 4294967295) = true := by decide +kernel
