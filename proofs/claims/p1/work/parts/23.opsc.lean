/-! ===== the law run on a script of five, in boxes: written by wip/gen/ops.py ===== -/
theorem s_op_14 : sExec mTab mInf sXN sXX sShT 200000 12 470 253 s0 (sB0 14 14 (-2147483648) 2147483647 (-2147483648) 2147483647) sFin = true := by decide +kernel
theorem s_op_15 : sExec mTab mInf sXN sXX sNo 200000 12 470 253 s0 (sB0 15 15 (-2147483648) 2147483647 (-2147483648) 2147483647) sFin = true := by decide +kernel
theorem s_op_16 : sExec mTab mInf sXN sXX sNo 200000 12 470 253 s0 (sB0 16 16 (-2147483648) 2147483647 (-2147483648) 2147483647) sFin = true := by decide +kernel
theorem s_op_17 : sExec mTab mInf sXN sXX sNo 200000 12 470 253 s0 (sB0 17 17 (-2147483648) 2147483647 (-2147483648) 2147483647) sFin = true := by decide +kernel
theorem s_op_18 : sExec mTab mInf sXN sXX sNo 200000 12 470 253 s0 (sB0 18 18 (-2147483648) 2147483647 (-2147483648) 2147483647) sFin = true := by decide +kernel
theorem s_op_19 : sExec mTab mInf sXN sXX sNo 200000 12 470 253 s0 (sB0 19 19 (-2147483648) 2147483647 (-2147483648) 2147483647) sFin = true := by decide +kernel
theorem s_op_20 : sExec mTab mInf sXN sXX sNo 200000 12 470 253 s0 (sB0 20 20 (-2147483648) 2147483647 (-2147483648) 2147483647) sFin = true := by decide +kernel
theorem s_op_21 : sExec mTab mInf sXN sXX sNo 200000 12 470 253 s0 (sB0 21 21 (-2147483648) 2147483647 (-2147483648) 2147483647) sFin = true := by decide +kernel
theorem s_op_22 : sExec mTab mInf sXN sXX sNo 200000 12 470 253 s0 (sB0 22 22 (-2147483648) 2147483647 (-2147483648) 2147483647) sFin = true := by decide +kernel
theorem s_op_23 : sExec mTab mInf sXN sXX sNo 200000 12 470 253 s0 (sB0 23 23 (-2147483648) 2147483647 (-2147483648) 2147483647) sFin = true := by decide +kernel
