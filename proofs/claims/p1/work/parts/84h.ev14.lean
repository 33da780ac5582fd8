/-! Evaluations: rootsBy, rootBy, usedShare. -/
set_option maxRecDepth 1000000 in
theorem mq_v36_0 : mq_try2 mq_t6 (mq_env 36 0 2147483648 0 4294967295 0 4294967295 0 4294967295 0 4294967295) = true := by decide +kernel
set_option maxRecDepth 1000000 in
theorem mq_v36_1 : mq_try2 mq_t6 (mq_env 36 2147483649 2147483649 0 4294967295 0 4294967295 0 4294967295 0 4294967295) = true := by decide +kernel
set_option maxRecDepth 1000000 in
theorem mq_v36_2 : mq_try2 mq_t6 (mq_env 36 2147483650 2147483650 0 4294967295 0 4294967295 0 4294967295 0 4294967295) = true := by decide +kernel
set_option maxRecDepth 1000000 in
theorem mq_v36_3 : mq_try2 mq_t6 (mq_env 36 2147483651 2147483651 0 4294967295 0 4294967295 0 4294967295 0 4294967295) = true := by decide +kernel
set_option maxRecDepth 1000000 in
theorem mq_v36_4 : mq_try2 mq_t6 (mq_env 36 2147483652 2147483652 0 4294967295 0 4294967295 0 4294967295 0 4294967295) = true := by decide +kernel
set_option maxRecDepth 1000000 in
theorem mq_v36_5 : mq_try2 mq_t6 (mq_env 36 2147483653 4294967295 0 4294967295 0 4294967295 0 4294967295 0 4294967295) = true := by decide +kernel
set_option maxRecDepth 1000000 in
theorem mq_v37_0 : mq_try2 mq_t6 (mq_env 37 0 2147483649 0 4294967295 0 4294967295 0 4294967295 0 4294967295) = true := by decide +kernel
set_option maxRecDepth 1000000 in
theorem mq_v37_1 : mq_try2 mq_t6 (mq_env 37 2147483650 4294967295 0 4294967295 0 4294967295 0 4294967295 0 4294967295) = true := by decide +kernel
set_option maxRecDepth 1000000 in
theorem mq_v46_0 : mq_try2 mq_t6 (mq_env 46 0 4294967295 0 4294967295 0 4294967295 0 4294967295 0 4294967295) = true := by decide +kernel
