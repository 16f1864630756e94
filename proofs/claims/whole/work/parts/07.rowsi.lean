/-! every row of these methods is checked -/
theorem xmo222 : xmOk 222 = true := by decide +kernel
