section
theorem o_4 : opsOK 6 (List.range' 32 8) = true := by decide +kernel
end
