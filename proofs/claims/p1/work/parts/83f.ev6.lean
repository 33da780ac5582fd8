/-! Evaluations: derive, primitive, simple, setTerm. -/
set_option maxRecDepth 1000000 in
theorem mq_v4_0 : mq_try mq_t6 (mq_env 4 0 4294967295 0 4294967295 0 4294967295 0 4294967295 0 4294967295) = true := by decide +kernel
set_option maxRecDepth 1000000 in
theorem mq_v8_0 : mq_try mq_t6 (mq_env 8 0 4294967295 0 4294967295 0 4294967295 0 4294967295 0 4294967295) = true := by decide +kernel
set_option maxRecDepth 1000000 in
theorem mq_v9_0 : mq_try mq_t6 (mq_env 9 0 4294967295 0 4294967295 0 4294967295 0 4294967295 0 4294967295) = true := by decide +kernel
set_option maxRecDepth 1000000 in
theorem mq_v11_0 : mq_try mq_t6 (mq_env 11 0 4294967295 0 2147483647 0 4294967295 0 4294967295 0 4294967295) = true := by decide +kernel
set_option maxRecDepth 1000000 in
theorem mq_v11_1 : mq_try mq_t6 (mq_env 11 0 4294967295 2147483648 2147483648 0 4294967295 0 4294967295 0 4294967295) = true := by decide +kernel
set_option maxRecDepth 1000000 in
theorem mq_v11_2 : mq_try mq_t6 (mq_env 11 0 4294967295 2147483649 2147483649 0 4294967295 0 4294967295 0 4294967295) = true := by decide +kernel
set_option maxRecDepth 1000000 in
theorem mq_v11_3 : mq_try mq_t6 (mq_env 11 0 4294967295 2147483650 2147483650 0 4294967295 0 4294967295 0 4294967295) = true := by decide +kernel
set_option maxRecDepth 1000000 in
theorem mq_v11_4 : mq_try mq_t6 (mq_env 11 0 4294967295 2147483651 2147483651 0 4294967295 0 4294967295 0 4294967295) = true := by decide +kernel
set_option maxRecDepth 1000000 in
theorem mq_v11_5 : mq_try mq_t6 (mq_env 11 0 4294967295 2147483652 2147483652 0 4294967295 0 4294967295 0 4294967295) = true := by decide +kernel
set_option maxRecDepth 1000000 in
theorem mq_v11_6 : mq_try mq_t6 (mq_env 11 0 4294967295 2147483653 2147483653 0 4294967295 0 4294967295 0 4294967295) = true := by decide +kernel
set_option maxRecDepth 1000000 in
theorem mq_v11_7 : mq_try mq_t6 (mq_env 11 0 4294967295 2147483654 2147483654 0 4294967295 0 4294967295 0 4294967295) = true := by decide +kernel
set_option maxRecDepth 1000000 in
theorem mq_v11_8 : mq_try mq_t6 (mq_env 11 0 4294967295 2147483655 2147483655 0 4294967295 0 4294967295 0 4294967295) = true := by decide +kernel
set_option maxRecDepth 1000000 in
theorem mq_v11_9 : mq_try mq_t6 (mq_env 11 0 4294967295 2147483656 2147483656 0 4294967295 0 4294967295 0 4294967295) = true := by decide +kernel
set_option maxRecDepth 1000000 in
theorem mq_v11_10 : mq_try mq_t6 (mq_env 11 0 4294967295 2147483657 2147483657 0 4294967295 0 4294967295 0 4294967295) = true := by decide +kernel
set_option maxRecDepth 1000000 in
theorem mq_v11_11 : mq_try mq_t6 (mq_env 11 0 4294967295 2147483658 2147483658 0 4294967295 0 4294967295 0 4294967295) = true := by decide +kernel
set_option maxRecDepth 1000000 in
theorem mq_v11_12 : mq_try mq_t6 (mq_env 11 0 4294967295 2147483659 2147483659 0 4294967295 0 4294967295 0 4294967295) = true := by decide +kernel
set_option maxRecDepth 1000000 in
theorem mq_v11_13 : mq_try mq_t6 (mq_env 11 0 4294967295 2147483660 2147483660 0 4294967295 0 4294967295 0 4294967295) = true := by decide +kernel
set_option maxRecDepth 1000000 in
theorem mq_v11_14 : mq_try mq_t6 (mq_env 11 0 4294967295 2147483661 4294967295 0 4294967295 0 4294967295 0 4294967295) = true := by decide +kernel
