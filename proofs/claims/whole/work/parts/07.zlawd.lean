/-! the law's rows, some at a time -/
theorem xml45 : (((xcode 222).drop 45).take 5).all (fun ch => ch.all (xrowOk 222)) = true := by decide +kernel
theorem xml50 : (((xcode 222).drop 50).take 5).all (fun ch => ch.all (xrowOk 222)) = true := by decide +kernel
theorem xml55 : (((xcode 222).drop 55).take 5).all (fun ch => ch.all (xrowOk 222)) = true := by decide +kernel
