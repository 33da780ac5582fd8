/-! The methods that are done at once. -/
