theorem dcl_480 : eDecR code C_law 480 48 = true := by decide +kernel
theorem dcl_528 : eDecR code C_law 528 48 = true := by decide +kernel
theorem dcl_576 : eDecR code C_law 576 48 = true := by decide +kernel
theorem dcl_624 : eDecR code C_law 624 48 = true := by decide +kernel
theorem dcl_672 : eDecR code C_law 672 48 = true := by decide +kernel
