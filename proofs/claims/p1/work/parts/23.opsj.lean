/-! ===== the law run on a script of five, in boxes: written by wip/gen/ops.py ===== -/
theorem s_op_28_2_l : sExec mTab mInf sXN sXX sShT 200000 12 470 253 s0 (sB0 28 28 2 2 (-2147483648) (-1)) sFin = true := by decide +kernel
theorem s_op_28_2_h : sExec mTab mInf sXN sXX sShT 200000 12 470 253 s0 (sB0 28 28 2 2 3 2147483647) sFin = true := by decide +kernel
theorem s_op_28_2_0 : sExec mTab mInf sXN sXX sShT 200000 12 470 253 s0 (sB0 28 28 2 2 0 0) sFin = true := by decide +kernel
theorem s_op_28_2_1 : sExec mTab mInf sXN sXX sShT 200000 12 470 253 s0 (sB0 28 28 2 2 1 1) sFin = true := by decide +kernel
theorem s_op_28_2_2 : sExec mTab mInf sXN sXX sShT 200000 12 470 253 s0 (sB0 28 28 2 2 2 2) sFin = true := by decide +kernel
