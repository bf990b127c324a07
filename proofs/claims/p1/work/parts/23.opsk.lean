section
theorem o_10 : opsOK 6 (List.range' 58 6) = true := by decide +kernel
end
