/-! the law's rows, some at a time -/
theorem xml15 : (((xcode 222).drop 15).take 5).all (fun ch => ch.all (xrowOk 222)) = true := by decide +kernel
theorem xml20 : (((xcode 222).drop 20).take 5).all (fun ch => ch.all (xrowOk 222)) = true := by decide +kernel
theorem xml25 : (((xcode 222).drop 25).take 5).all (fun ch => ch.all (xrowOk 222)) = true := by decide +kernel
