section
theorem o_2 : opsOK 6 (List.range' 16 8) = true := by decide +kernel
end
