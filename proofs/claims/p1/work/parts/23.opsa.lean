section
theorem o_0 : opsOK 6 (List.range' 0 8) = true := by decide +kernel
end
