section
theorem o_5 : opsOK 6 (List.range' 48 16) = true := by decide +kernel
end
