section
theorem o_4 : opsOK 6 (List.range' 22 6) = true := by decide +kernel
end
