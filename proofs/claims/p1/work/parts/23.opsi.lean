section
theorem o_8 : opsOK 6 (List.range' 46 6) = true := by decide +kernel
end
