/-! Evaluations: substitute. -/
set_option maxRecDepth 1000000 in
theorem mq_v5_0 : mq_try2 mq_t6 (mq_env 5 0 4294967295 0 2147483648 0 4294967295 0 4294967295 0 4294967295) = true := by decide +kernel
set_option maxRecDepth 1000000 in
theorem mq_v5_1 : mq_try2 mq_t6 (mq_env 5 0 4294967295 2147483649 2147483649 0 4294967295 0 4294967295 0 4294967295) = true := by decide +kernel
set_option maxRecDepth 1000000 in
theorem mq_v5_2 : mq_try2 mq_t6 (mq_env 5 0 4294967295 2147483650 2147483650 0 4294967295 0 4294967295 0 4294967295) = true := by decide +kernel
set_option maxRecDepth 1000000 in
theorem mq_v5_3 : mq_try2 mq_t6 (mq_env 5 0 4294967295 2147483651 2147483651 0 4294967295 0 4294967295 0 4294967295) = true := by decide +kernel
set_option maxRecDepth 1000000 in
theorem mq_v5_4 : mq_try2 mq_t6 (mq_env 5 0 4294967295 2147483652 2147483652 0 4294967295 0 4294967295 0 4294967295) = true := by decide +kernel
set_option maxRecDepth 1000000 in
theorem mq_v5_5 : mq_try2 mq_t6 (mq_env 5 0 4294967295 2147483653 4294967295 0 4294967295 0 4294967295 0 4294967295) = true := by decide +kernel
