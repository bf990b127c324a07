section
theorem o_3 : opsOK 6 (List.range' 24 8) = true := by decide +kernel
end
