section
theorem o_3 : opsOK 6 (List.range' 16 16) = true := by decide +kernel
end
