section
theorem ckG_52 : ckG 52 = true := by decide +kernel
theorem ckG_53 : ckG 53 = true := by decide +kernel
theorem ckG_54 : ckG 54 = true := by decide +kernel
theorem ckG_55 : ckG 55 = true := by decide +kernel
theorem ckG_56 : ckG 56 = true := by decide +kernel
theorem ckG_57 : ckG 57 = true := by decide +kernel
theorem ckG_58 : ckG 58 = true := by decide +kernel
theorem ckG_59 : ckG 59 = true := by decide +kernel
theorem ckG_60 : ckG 60 = true := by decide +kernel
end
