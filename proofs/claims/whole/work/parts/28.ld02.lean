theorem dcl_240 : eDecR code C_law 240 48 = true := by decide +kernel
theorem dcl_288 : eDecR code C_law 288 48 = true := by decide +kernel
theorem dcl_336 : eDecR code C_law 336 48 = true := by decide +kernel
theorem dcl_384 : eDecR code C_law 384 48 = true := by decide +kernel
theorem dcl_432 : eDecR code C_law 432 48 = true := by decide +kernel
