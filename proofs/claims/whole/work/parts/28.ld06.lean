theorem dcl_1200 : eDecR code C_law 1200 48 = true := by decide +kernel
theorem dcl_1248 : eDecR code C_law 1248 48 = true := by decide +kernel
theorem dcl_1296 : eDecR code C_law 1296 48 = true := by decide +kernel
theorem dcl_1344 : eDecR code C_law 1344 48 = true := by decide +kernel
