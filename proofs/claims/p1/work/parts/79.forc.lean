/-! The methods that are done at once. -/
theorem mq_w28 : mq_okO 28 3 mq_o_val := by
  sorry
theorem mq_w88 : mq_okO 88 2 mq_o_size := by
  sorry
