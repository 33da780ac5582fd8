/-! Evaluations: divides, agreements, realRoots, sturmLength, fractionRoots, fractionRoot. -/
set_option maxRecDepth 1000000 in
theorem mq_v23_0 : mq_try2 mq_t6 (mq_env 23 0 4294967295 0 4294967295 0 4294967295 0 4294967295 0 4294967295) = true := by decide +kernel
set_option maxRecDepth 1000000 in
theorem mq_v25_0 : mq_try2 mq_t6 (mq_env 25 0 2147483649 0 4294967295 0 4294967295 0 4294967295 0 4294967295) = true := by decide +kernel
set_option maxRecDepth 1000000 in
theorem mq_v25_1 : mq_try2 mq_t6 (mq_env 25 2147483650 4294967295 0 4294967295 0 4294967295 0 4294967295 0 4294967295) = true := by decide +kernel
set_option maxRecDepth 1000000 in
theorem mq_v29_0 : mq_try2 mq_t6 (mq_env 29 0 4294967295 0 4294967295 0 4294967295 0 4294967295 0 4294967295) = true := by decide +kernel
set_option maxRecDepth 1000000 in
theorem mq_v31_0 : mq_try2 mq_t6 (mq_env 31 0 4294967295 0 4294967295 0 4294967295 0 4294967295 0 4294967295) = true := by decide +kernel
set_option maxRecDepth 1000000 in
theorem mq_v34_0 : mq_try2 mq_t6 (mq_env 34 0 4294967295 0 4294967295 0 4294967295 0 4294967295 0 4294967295) = true := by decide +kernel
set_option maxRecDepth 1000000 in
theorem mq_v35_0 : mq_try2 mq_t6 (mq_env 35 0 2147483648 0 4294967295 0 4294967295 0 4294967295 0 4294967295) = true := by decide +kernel
set_option maxRecDepth 1000000 in
theorem mq_v35_1 : mq_try2 mq_t6 (mq_env 35 2147483649 2147483649 0 4294967295 0 4294967295 0 4294967295 0 4294967295) = true := by decide +kernel
set_option maxRecDepth 1000000 in
theorem mq_v35_2 : mq_try2 mq_t6 (mq_env 35 2147483650 4294967295 0 4294967295 0 4294967295 0 4294967295 0 4294967295) = true := by decide +kernel
