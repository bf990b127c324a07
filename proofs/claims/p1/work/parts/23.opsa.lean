section
theorem o_0 : opsOK 6 (List.range' 0 1) = true := by decide +kernel
end
