/-! ===== the law run on a script of five, in boxes: written by wip/gen/ops.py ===== -/
theorem s_op_27_l : sExec mTab mInf sXN sXX sShT 200000 12 470 253 s0 (sB0 27 27 (-2147483648) 2147483647 (-2147483648) (-1)) sFin = true := by decide +kernel
theorem s_op_27_h : sExec mTab mInf sXN sXX sShT 200000 12 470 253 s0 (sB0 27 27 (-2147483648) 2147483647 6 2147483647) sFin = true := by decide +kernel
theorem s_op_27_0 : sExec mTab mInf sXN sXX sShT 200000 12 470 253 s0 (sB0 27 27 (-2147483648) 2147483647 0 0) sFin = true := by decide +kernel
theorem s_op_27_1 : sExec mTab mInf sXN sXX sShT 200000 12 470 253 s0 (sB0 27 27 (-2147483648) 2147483647 1 1) sFin = true := by decide +kernel
theorem s_op_27_2 : sExec mTab mInf sXN sXX sShT 200000 12 470 253 s0 (sB0 27 27 (-2147483648) 2147483647 2 2) sFin = true := by decide +kernel
