section
theorem o_9 : opsOK 6 (List.range' 52 6) = true := by decide +kernel
end
