/-! ===== the law run on a script of five, in boxes: written by wip/gen/ops.py ===== -/
theorem s_op_10_0 : sExec mTab mInf sXN sXX sNo 200000 12 470 253 s0 (sB0 10 10 (-2147483648) 10 (-2147483648) 2147483647) sFin = true := by decide +kernel
theorem s_op_10_1 : sExec mTab mInf sXN sXX sNo 200000 12 470 253 s0 (sB0 10 10 11 16 (-2147483648) 2147483647) sFin = true := by decide +kernel
theorem s_op_10_2 : sExec mTab mInf sXN sXX sNo 200000 12 470 253 s0 (sB0 10 10 17 21 (-2147483648) 2147483647) sFin = true := by decide +kernel
theorem s_op_10_3 : sExec mTab mInf sXN sXX sNo 200000 12 470 253 s0 (sB0 10 10 22 26 (-2147483648) 2147483647) sFin = true := by decide +kernel
theorem s_op_10_4 : sExec mTab mInf sXN sXX sNo 200000 12 470 253 s0 (sB0 10 10 27 2147483647 (-2147483648) 2147483647) sFin = true := by decide +kernel
theorem s_op_11 : sExec mTab mInf sXN sXX sNo 200000 12 470 253 s0 (sB0 11 11 (-2147483648) 2147483647 (-2147483648) 2147483647) sFin = true := by decide +kernel
theorem s_op_12 : sExec mTab mInf sXN sXX sNo 200000 12 470 253 s0 (sB0 12 12 (-2147483648) 2147483647 (-2147483648) 2147483647) sFin = true := by decide +kernel
theorem s_op_13 : sExec mTab mInf sXN sXX sNo 200000 12 470 253 s0 (sB0 13 13 (-2147483648) 2147483647 (-2147483648) 2147483647) sFin = true := by decide +kernel
