section
theorem ckF_6_45 : ckF lwF_6 45 = true := by decide +kernel
end
