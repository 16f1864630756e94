/-! the law's rows, some at a time -/
theorem xml30 : (((xcode 222).drop 30).take 5).all (fun ch => ch.all (xrowOk 222)) = true := by decide +kernel
theorem xml35 : (((xcode 222).drop 35).take 5).all (fun ch => ch.all (xrowOk 222)) = true := by decide +kernel
theorem xml40 : (((xcode 222).drop 40).take 5).all (fun ch => ch.all (xrowOk 222)) = true := by decide +kernel
