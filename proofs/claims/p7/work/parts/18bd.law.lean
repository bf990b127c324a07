section
theorem ckG_61 : ckG 61 = true := by decide +kernel
theorem ckG_62 : ckG 62 = true := by decide +kernel
theorem ckG_63 : ckG 63 = true := by decide +kernel
theorem ckF_0_44 : ckF lwF_0 44 = true := by decide +kernel
theorem ckF_1_44 : ckF lwF_1 44 = true := by decide +kernel
theorem ckF_2_44 : ckF lwF_2 44 = true := by decide +kernel
theorem ckF_3_44 : ckF lwF_3 44 = true := by decide +kernel
theorem ckF_4_44 : ckF lwF_4 44 = true := by decide +kernel
theorem ckF_5_44 : ckF lwF_5 44 = true := by decide +kernel
theorem ckF_6_44 : ckF lwF_6 44 = true := by decide +kernel
theorem ckF_0_45 : ckF lwF_0 45 = true := by decide +kernel
theorem ckF_1_45 : ckF lwF_1 45 = true := by decide +kernel
theorem ckF_2_45 : ckF lwF_2 45 = true := by decide +kernel
theorem ckF_3_45 : ckF lwF_3 45 = true := by decide +kernel
theorem ckF_4_45 : ckF lwF_4 45 = true := by decide +kernel
theorem ckF_5_45 : ckF lwF_5 45 = true := by decide +kernel
end
