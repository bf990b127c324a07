section
theorem o_5 : opsOK 6 (List.range' 40 8) = true := by decide +kernel
end
