theorem dcl_720 : eDecR code C_law 720 48 = true := by decide +kernel
theorem dcl_768 : eDecR code C_law 768 48 = true := by decide +kernel
theorem dcl_816 : eDecR code C_law 816 48 = true := by decide +kernel
theorem dcl_864 : eDecR code C_law 864 48 = true := by decide +kernel
theorem dcl_912 : eDecR code C_law 912 48 = true := by decide +kernel
