section
theorem o_2 : opsOK 6 (List.range' 2 14) = true := by decide +kernel
end
