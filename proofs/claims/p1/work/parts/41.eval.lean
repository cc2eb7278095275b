set_option maxRecDepth 100000
section YEVAL
theorem ylaw_0 : ylaw 0 ([], []) = true := by decide +kernel
end YEVAL
