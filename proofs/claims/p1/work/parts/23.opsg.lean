section
theorem o_6 : opsOK 6 (List.range' 34 6) = true := by decide +kernel
end
