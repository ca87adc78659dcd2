theorem s_op_14 : sExec mTab mInf sXN sXX sShT 60000 12 470 253 s0 (sB0 14 14 (-2147483648) 2147483647 (-2147483648) 2147483647) sFin = true := by decide +kernel
