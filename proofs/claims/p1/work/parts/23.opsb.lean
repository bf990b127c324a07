section
theorem o_1 : opsOK 6 (List.range' 8 8) = true := by decide +kernel
end
