/-! every row of these methods is checked -/
theorem xmo177 : xmOk 177 = true := by decide +kernel
theorem xmo178 : xmOk 178 = true := by decide +kernel
theorem xmo179 : xmOk 179 = true := by decide +kernel
theorem xmo180 : xmOk 180 = true := by decide +kernel
theorem xmo181 : xmOk 181 = true := by decide +kernel
theorem xmo182 : xmOk 182 = true := by decide +kernel
theorem xmo183 : xmOk 183 = true := by decide +kernel
theorem xmo184 : xmOk 184 = true := by decide +kernel
theorem xmo185 : xmOk 185 = true := by decide +kernel
theorem xmo186 : xmOk 186 = true := by decide +kernel
theorem xmo187 : xmOk 187 = true := by decide +kernel
theorem xmo188 : xmOk 188 = true := by decide +kernel
theorem xmo189 : xmOk 189 = true := by decide +kernel
