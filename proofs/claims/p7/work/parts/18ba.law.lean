section
theorem ckG_0 : ckG 0 = true := by decide +kernel
theorem ckG_1 : ckG 1 = true := by decide +kernel
theorem ckG_2 : ckG 2 = true := by decide +kernel
theorem ckG_3 : ckG 3 = true := by decide +kernel
theorem ckG_4 : ckG 4 = true := by decide +kernel
theorem ckG_5 : ckG 5 = true := by decide +kernel
theorem ckG_6 : ckG 6 = true := by decide +kernel
theorem ckG_7 : ckG 7 = true := by decide +kernel
theorem ckG_8 : ckG 8 = true := by decide +kernel
theorem ckG_9 : ckG 9 = true := by decide +kernel
theorem ckG_10 : ckG 10 = true := by decide +kernel
theorem ckG_11 : ckG 11 = true := by decide +kernel
theorem ckG_12 : ckG 12 = true := by decide +kernel
theorem ckG_13 : ckG 13 = true := by decide +kernel
theorem ckG_14 : ckG 14 = true := by decide +kernel
theorem ckG_15 : ckG 15 = true := by decide +kernel
theorem ckG_16 : ckG 16 = true := by decide +kernel
theorem ckG_17 : ckG 17 = true := by decide +kernel
theorem ckG_18 : ckG 18 = true := by decide +kernel
theorem ckG_19 : ckG 19 = true := by decide +kernel
theorem ckG_20 : ckG 20 = true := by decide +kernel
theorem ckG_21 : ckG 21 = true := by decide +kernel
theorem ckG_22 : ckG 22 = true := by decide +kernel
theorem ckG_23 : ckG 23 = true := by decide +kernel
theorem ckG_24 : ckG 24 = true := by decide +kernel
end
