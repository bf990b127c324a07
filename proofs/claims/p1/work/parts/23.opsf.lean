section
theorem o_5 : opsOK 6 (List.range' 28 6) = true := by decide +kernel
end
