/-! ===== the law run on a script of five, in boxes: written by wip/gen/ops.py ===== -/
theorem s_op_0 : sExec mTab mInf sXN sXX sNo 200000 12 470 253 s0 (sB0 0 0 (-2147483648) 2147483647 (-2147483648) 2147483647) sFin = true := by decide +kernel
theorem s_op_1 : sExec mTab mInf sXN sXX sNo 200000 12 470 253 s0 (sB0 1 1 (-2147483648) 2147483647 (-2147483648) 2147483647) sFin = true := by decide +kernel
theorem s_op_2 : sExec mTab mInf sXN sXX sNo 200000 12 470 253 s0 (sB0 2 2 (-2147483648) 2147483647 (-2147483648) 2147483647) sFin = true := by decide +kernel
theorem s_op_3 : sExec mTab mInf sXN sXX sNo 200000 12 470 253 s0 (sB0 3 3 (-2147483648) 2147483647 (-2147483648) 2147483647) sFin = true := by decide +kernel
theorem s_op_4 : sExec mTab mInf sXN sXX sNo 200000 12 470 253 s0 (sB0 4 4 (-2147483648) 2147483647 (-2147483648) 2147483647) sFin = true := by decide +kernel
theorem s_op_5 : sExec mTab mInf sXN sXX sNo 200000 12 470 253 s0 (sB0 5 5 (-2147483648) 2147483647 (-2147483648) 2147483647) sFin = true := by decide +kernel
theorem s_op_6 : sExec mTab mInf sXN sXX sNo 200000 12 470 253 s0 (sB0 6 6 (-2147483648) 2147483647 (-2147483648) 2147483647) sFin = true := by decide +kernel
theorem s_op_7 : sExec mTab mInf sXN sXX sNo 200000 12 470 253 s0 (sB0 7 7 (-2147483648) 2147483647 (-2147483648) 2147483647) sFin = true := by decide +kernel
theorem s_op_8 : sExec mTab mInf sXN sXX sNo 200000 12 470 253 s0 (sB0 8 8 (-2147483648) 2147483647 (-2147483648) 2147483647) sFin = true := by decide +kernel
theorem s_op_9 : sExec mTab mInf sXN sXX sNo 200000 12 470 253 s0 (sB0 9 9 (-2147483648) 2147483647 (-2147483648) 2147483647) sFin = true := by decide +kernel
