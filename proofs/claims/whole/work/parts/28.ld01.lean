theorem dcl_0 : eDecR code C_law 0 48 = true := by decide +kernel
theorem dcl_48 : eDecR code C_law 48 48 = true := by decide +kernel
theorem dcl_96 : eDecR code C_law 96 48 = true := by decide +kernel
theorem dcl_144 : eDecR code C_law 144 48 = true := by decide +kernel
theorem dcl_192 : eDecR code C_law 192 48 = true := by decide +kernel
