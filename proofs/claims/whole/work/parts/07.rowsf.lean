/-! every row of these methods is checked -/
theorem xmo161 : xmOk 161 = true := by decide +kernel
theorem xmo162 : xmOk 162 = true := by decide +kernel
theorem xmo163 : xmOk 163 = true := by decide +kernel
theorem xmo164 : xmOk 164 = true := by decide +kernel
theorem xmo165 : xmOk 165 = true := by decide +kernel
theorem xmo166 : xmOk 166 = true := by decide +kernel
theorem xmo167 : xmOk 167 = true := by decide +kernel
theorem xmo168 : xmOk 168 = true := by decide +kernel
theorem xmo169 : xmOk 169 = true := by decide +kernel
theorem xmo170 : xmOk 170 = true := by decide +kernel
theorem xmo171 : xmOk 171 = true := by decide +kernel
theorem xmo172 : xmOk 172 = true := by decide +kernel
theorem xmo173 : xmOk 173 = true := by decide +kernel
theorem xmo174 : xmOk 174 = true := by decide +kernel
theorem xmo175 : xmOk 175 = true := by decide +kernel
theorem xmo176 : xmOk 176 = true := by decide +kernel
