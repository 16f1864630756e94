/-! the law's rows, some at a time -/
theorem xml0 : (((xcode 222).drop 0).take 5).all (fun ch => ch.all (xrowOk 222)) = true := by decide +kernel
theorem xml5 : (((xcode 222).drop 5).take 5).all (fun ch => ch.all (xrowOk 222)) = true := by decide +kernel
theorem xml10 : (((xcode 222).drop 10).take 5).all (fun ch => ch.all (xrowOk 222)) = true := by decide +kernel
