/-! Trial runs. -/
def mq_dB : Nat × Nat := (0, 4294967295)
def mq_e0 (op lo1 hi1 lo2 hi2 lo3 hi3 lo5 hi5 : Nat) : mq_V := [mq_dB, (lo1, hi1), (lo2, hi2), (lo3, hi3), mq_dB, (lo5, hi5), mq_dB, mq_dB, mq_dB, (0, 2), (2147483648, 2147483668), mq_dB, (0, 2), (0, 2), (0, 2), (0, 2), (0, 2), (0, 2), (0, 2), (0, 2), (0, 2), (0, 2), (0, 2), (0, 2), mq_dB, mq_dB, mq_dB, mq_dB, mq_dB, mq_dB, mq_dB, mq_dB, mq_dB, mq_dB, mq_dB, mq_dB, mq_dB, mq_dB, mq_dB, mq_dB, mq_dB, mq_dB, mq_dB, mq_dB, mq_dB, mq_dB, mq_dB, mq_dB, mq_dB, mq_dB, mq_dB, mq_dB, mq_dB, mq_dB, mq_dB, mq_dB, mq_dB, mq_dB, mq_dB, mq_dB, mq_dB, mq_dB, (0, 6), (op, op)]
set_option maxRecDepth 1000000 in
theorem mq_y22 : mq_try mq_t6 (mq_e0 22 2147483648 2147483653 0 4294967295 2147483650 4294967295 0 4294967295) = true := by decide +kernel
