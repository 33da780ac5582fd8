/-! The methods that are done at once. -/
theorem mq_w28 : mq_okO 28 3 mq_o_val := by
  sorry
