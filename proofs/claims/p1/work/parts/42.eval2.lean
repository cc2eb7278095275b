set_option maxRecDepth 100000
section YEVAL2
theorem ylaw_k0 : ylaw 7 ((11, [(2147483648, 2147483754)]) :: [(20, [(2147483651, 2147483652)])], []) = true := by decide +kernel
theorem ylaw_k1 : ylaw 7 ((11, [(2147483754, 2147483755)]) :: [(20, [(2147483651, 2147483652)])], []) = true := by decide +kernel
theorem ylaw_k2 : ylaw 7 ((11, [(2147483755, 2147483756)]) :: [(20, [(2147483651, 2147483652)])], []) = true := by decide +kernel
theorem ylaw_k4 : ylaw 7 ((11, [(2147483757, 2147483763)]) :: [(20, [(2147483651, 2147483652)])], []) = true := by decide +kernel
theorem ylaw_k5 : ylaw 7 ((11, [(2147483763, 2147483764)]) :: [(20, [(2147483651, 2147483652)])], []) = true := by decide +kernel
theorem ylaw_k7 : ylaw 7 ((11, [(2147483765, 2147483766)]) :: [(20, [(2147483651, 2147483652)])], []) = true := by decide +kernel
theorem ylaw_k8 : ylaw 7 ((11, [(2147483766, 2147483767)]) :: [(20, [(2147483651, 2147483652)])], []) = true := by decide +kernel
theorem ylaw_k9 : ylaw 7 ((11, [(2147483767, 2147549184)]) :: [(20, [(2147483651, 2147483652)])], []) = true := by decide +kernel
end YEVAL2
