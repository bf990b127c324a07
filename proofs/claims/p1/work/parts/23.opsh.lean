section
theorem o_7 : opsOK 6 (List.range' 40 6) = true := by decide +kernel
end
