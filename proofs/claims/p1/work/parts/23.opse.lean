section
theorem o_4 : opsOK 6 (List.range' 32 16) = true := by decide +kernel
end
