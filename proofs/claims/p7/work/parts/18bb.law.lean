section
theorem ckG_25 : ckG 25 = true := by decide +kernel
theorem ckG_26 : ckG 26 = true := by decide +kernel
theorem ckG_27 : ckG 27 = true := by decide +kernel
theorem ckG_28 : ckG 28 = true := by decide +kernel
theorem ckG_29 : ckG 29 = true := by decide +kernel
theorem ckG_30 : ckG 30 = true := by decide +kernel
theorem ckG_31 : ckG 31 = true := by decide +kernel
theorem ckG_32 : ckG 32 = true := by decide +kernel
theorem ckG_33 : ckG 33 = true := by decide +kernel
theorem ckG_34 : ckG 34 = true := by decide +kernel
theorem ckG_35 : ckG 35 = true := by decide +kernel
theorem ckG_36 : ckG 36 = true := by decide +kernel
theorem ckG_37 : ckG 37 = true := by decide +kernel
theorem ckG_38 : ckG 38 = true := by decide +kernel
theorem ckG_39 : ckG 39 = true := by decide +kernel
theorem ckG_40 : ckG 40 = true := by decide +kernel
theorem ckG_41 : ckG 41 = true := by decide +kernel
theorem ckG_42 : ckG 42 = true := by decide +kernel
theorem ckG_43 : ckG 43 = true := by decide +kernel
theorem ckG_46 : ckG 46 = true := by decide +kernel
theorem ckG_47 : ckG 47 = true := by decide +kernel
theorem ckG_48 : ckG 48 = true := by decide +kernel
theorem ckG_49 : ckG 49 = true := by decide +kernel
theorem ckG_50 : ckG 50 = true := by decide +kernel
theorem ckG_51 : ckG 51 = true := by decide +kernel
end
