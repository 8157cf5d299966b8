theorem dcl_960 : eDecR code C_law 960 48 = true := by decide +kernel
theorem dcl_1008 : eDecR code C_law 1008 48 = true := by decide +kernel
theorem dcl_1056 : eDecR code C_law 1056 48 = true := by decide +kernel
theorem dcl_1104 : eDecR code C_law 1104 48 = true := by decide +kernel
theorem dcl_1152 : eDecR code C_law 1152 48 = true := by decide +kernel
