section
theorem ckG_46 : ckG 46 = true := by decide +kernel
theorem ckG_47 : ckG 47 = true := by decide +kernel
theorem ckG_48 : ckG 48 = true := by decide +kernel
theorem ckG_49 : ckG 49 = true := by decide +kernel
theorem ckG_50 : ckG 50 = true := by decide +kernel
theorem ckG_51 : ckG 51 = true := by decide +kernel
theorem ckG_52 : ckG 52 = true := by decide +kernel
theorem ckG_53 : ckG 53 = true := by decide +kernel
theorem ckG_54 : ckG 54 = true := by decide +kernel
theorem ckG_55 : ckG 55 = true := by decide +kernel
theorem ckG_56 : ckG 56 = true := by decide +kernel
theorem ckG_57 : ckG 57 = true := by decide +kernel
theorem ckG_58 : ckG 58 = true := by decide +kernel
theorem ckG_59 : ckG 59 = true := by decide +kernel
theorem ckG_60 : ckG 60 = true := by decide +kernel
theorem ckG_61 : ckG 61 = true := by decide +kernel
theorem ckG_62 : ckG 62 = true := by decide +kernel
theorem ckG_63 : ckG 63 = true := by decide +kernel
theorem ckF_0_44 : ckF lwF_0 44 = true := by decide +kernel
theorem ckF_1_44 : ckF lwF_1 44 = true := by decide +kernel
theorem ckF_2_44 : ckF lwF_2 44 = true := by decide +kernel
theorem ckF_3_44 : ckF lwF_3 44 = true := by decide +kernel
theorem ckF_4_44 : ckF lwF_4 44 = true := by decide +kernel
theorem ckF_5_44 : ckF lwF_5 44 = true := by decide +kernel
theorem ckF_6_44 : ckF lwF_6 44 = true := by decide +kernel
theorem ckF_0_45 : ckF lwF_0 45 = true := by decide +kernel
theorem ckF_1_45 : ckF lwF_1 45 = true := by decide +kernel
theorem ckF_2_45 : ckF lwF_2 45 = true := by decide +kernel
theorem ckF_3_45 : ckF lwF_3 45 = true := by decide +kernel
theorem ckF_4_45 : ckF lwF_4 45 = true := by decide +kernel
theorem ckF_5_45 : ckF lwF_5 45 = true := by decide +kernel
theorem ckF_6_45 : ckF lwF_6 45 = true := by decide +kernel
end
