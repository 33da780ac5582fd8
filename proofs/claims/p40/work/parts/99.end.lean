/-! The end. -/
theorem mq_zz : True := trivial
