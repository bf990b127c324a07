section
theorem ckG_19 : ckG 19 = true := by decide +kernel
theorem ckG_20 : ckG 20 = true := by decide +kernel
theorem ckG_21 : ckG 21 = true := by decide +kernel
theorem ckG_22 : ckG 22 = true := by decide +kernel
theorem ckG_23 : ckG 23 = true := by decide +kernel
theorem ckG_24 : ckG 24 = true := by decide +kernel
theorem ckG_25 : ckG 25 = true := by decide +kernel
theorem ckG_26 : ckG 26 = true := by decide +kernel
theorem ckG_27 : ckG 27 = true := by decide +kernel
theorem ckG_28 : ckG 28 = true := by decide +kernel
theorem ckG_29 : ckG 29 = true := by decide +kernel
theorem ckG_30 : ckG 30 = true := by decide +kernel
theorem ckG_31 : ckG 31 = true := by decide +kernel
theorem ckG_32 : ckG 32 = true := by decide +kernel
end
