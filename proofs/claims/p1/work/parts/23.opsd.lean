/-! ===== the law run on a script of five, in boxes: written by wip/gen/ops.py ===== -/
theorem s_op_24 : sExec mTab mInf sXN sXX sNo 200000 12 470 253 s0 (sB0 24 24 (-2147483648) 2147483647 (-2147483648) 2147483647) sFin = true := by decide +kernel
theorem s_op_25 : sExec mTab mInf sXN sXX sNo 200000 12 470 253 s0 (sB0 25 25 (-2147483648) 2147483647 (-2147483648) 2147483647) sFin = true := by decide +kernel
theorem s_op_26 : sExec mTab mInf sXN sXX sNo 200000 12 470 253 s0 (sB0 26 26 (-2147483648) 2147483647 (-2147483648) 2147483647) sFin = true := by decide +kernel
theorem s_op_29 : sExec mTab mInf sXN sXX sNo 200000 12 470 253 s0 (sB0 29 29 (-2147483648) 2147483647 (-2147483648) 2147483647) sFin = true := by decide +kernel
theorem s_op_30 : sExec mTab mInf sXN sXX sNo 200000 12 470 253 s0 (sB0 30 30 (-2147483648) 2147483647 (-2147483648) 2147483647) sFin = true := by decide +kernel
theorem s_op_31 : sExec mTab mInf sXN sXX sNo 200000 12 470 253 s0 (sB0 31 31 (-2147483648) 2147483647 (-2147483648) 2147483647) sFin = true := by decide +kernel
theorem s_op_33 : sExec mTab mInf sXN sXX sNo 200000 12 470 253 s0 (sB0 33 33 (-2147483648) 2147483647 (-2147483648) 2147483647) sFin = true := by decide +kernel
theorem s_op_rest : sExec mTab mInf sXN sXX sNo 200000 12 470 253 s0 (sB0 34 63 (-2147483648) 2147483647 (-2147483648) 2147483647) sFin = true := by decide +kernel
