section
theorem o_3 : opsOK 6 (List.range' 16 6) = true := by decide +kernel
end
