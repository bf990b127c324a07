section
theorem o_6 : opsOK 6 (List.range' 48 8) = true := by decide +kernel
end
