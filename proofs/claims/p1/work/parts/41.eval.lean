set_option maxRecDepth 100000
section YEVAL3
theorem ylaw_o3 : ylaw 7 (yop 3) = true := by decide +kernel
end YEVAL3
