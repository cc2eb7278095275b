set_option maxRecDepth 100000
section YEVAL
theorem ylaw_s0 : ylaw 0 ([], []) = true := by decide +kernel
theorem ylaw_s1 : ylaw 1 ([], []) = true := by decide +kernel
theorem ylaw_s2 : ylaw 2 ([], []) = true := by decide +kernel
theorem ylaw_s3 : ylaw 3 ([], []) = true := by decide +kernel
theorem ylaw_s4 : ylaw 4 ([], []) = true := by decide +kernel
theorem ylaw_s5 : ylaw 5 ([], []) = true := by decide +kernel
theorem ylaw_s6 : ylaw 6 ([], []) = true := by decide +kernel
theorem ylaw_s : ∀ L, L < 7 → ylaw L ([], []) = true := fun L hL => match L, hL with
  | 0, _ => ylaw_s0
  | 1, _ => ylaw_s1
  | 2, _ => ylaw_s2
  | 3, _ => ylaw_s3
  | 4, _ => ylaw_s4
  | 5, _ => ylaw_s5
  | 6, _ => ylaw_s6
theorem ylaw_o0 : ylaw 7 (yop 0) = true := by decide +kernel
theorem ylaw_o1 : ylaw 7 (yop 1) = true := by decide +kernel
theorem ylaw_o2 : ylaw 7 (yop 2) = true := by decide +kernel
theorem ylaw_o4 : ylaw 7 (yop 4) = true := by decide +kernel
theorem ylaw_o5 : ylaw 7 (yop 5) = true := by decide +kernel
theorem ylaw_o6 : ylaw 7 (yop 6) = true := by decide +kernel
theorem ylaw_o7 : ylaw 7 (yop 7) = true := by decide +kernel
theorem ylaw_o8 : ylaw 7 (yop 8) = true := by decide +kernel
theorem ylaw_o9 : ylaw 7 (yop 9) = true := by decide +kernel
theorem ylaw_o10 : ylaw 7 (yop 10) = true := by decide +kernel
theorem ylaw_o11 : ylaw 7 (yop 11) = true := by decide +kernel
theorem ylaw_o12 : ylaw 7 (yop 12) = true := by decide +kernel
theorem ylaw_o13 : ylaw 7 (yop 13) = true := by decide +kernel
theorem ylaw_o14 : ylaw 7 (yop 14) = true := by decide +kernel
theorem ylaw_o15 : ylaw 7 (yop 15) = true := by decide +kernel
theorem ylaw_o16 : ylaw 7 (yop 16) = true := by decide +kernel
theorem ylaw_o17 : ylaw 7 (yop 17) = true := by decide +kernel
theorem ylaw_o18 : ylaw 7 (yop 18) = true := by decide +kernel
theorem ylaw_o19 : ylaw 7 (yop 19) = true := by decide +kernel
theorem ylaw_o20 : ylaw 7 (yop 20) = true := by decide +kernel
theorem ylaw_o21 : ylaw 7 (yop 21) = true := by decide +kernel
theorem ylaw_o22 : ylaw 7 (yop 22) = true := by decide +kernel
theorem ylaw_o23 : ylaw 7 (yop 23) = true := by decide +kernel
theorem ylaw_o24 : ylaw 7 (yop 24) = true := by decide +kernel
theorem ylaw_o25 : ylaw 7 (yop 25) = true := by decide +kernel
theorem ylaw_o26 : ylaw 7 (yop 26) = true := by decide +kernel
theorem ylaw_o27 : ylaw 7 (yop 27) = true := by decide +kernel
theorem ylaw_o28 : ylaw 7 (yop 28) = true := by decide +kernel
theorem ylaw_o29 : ylaw 7 (yop 29) = true := by decide +kernel
theorem ylaw_o30 : ylaw 7 (yop 30) = true := by decide +kernel
theorem ylaw_o31 : ylaw 7 (yop 31) = true := by decide +kernel
end YEVAL
