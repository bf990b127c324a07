section
theorem o_7 : opsOK 6 (List.range' 56 8) = true := by decide +kernel
end
