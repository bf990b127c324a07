section
theorem o_1 : opsOK 6 (List.range' 1 1) = true := by decide +kernel
end
