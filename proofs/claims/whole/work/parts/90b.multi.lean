/-! rows of rows: an array of two dimensions -/
theorem ma_stub : 1 + 1 = 2 := rfl
