/-! ===== the law run on a script of five, in boxes: written by wip/gen/ops.py ===== -/
theorem s_op_28_sl : sExec mTab mInf sXN sXX sShT 200000 12 470 253 s0 (sB0 28 28 (-2147483648) (-1) (-2147483648) 2147483647) sFin = true := by decide +kernel
theorem s_op_28_sh : sExec mTab mInf sXN sXX sShT 200000 12 470 253 s0 (sB0 28 28 3 2147483647 (-2147483648) 2147483647) sFin = true := by decide +kernel
theorem s_op_28_0_l : sExec mTab mInf sXN sXX sShT 200000 12 470 253 s0 (sB0 28 28 0 0 (-2147483648) (-1)) sFin = true := by decide +kernel
theorem s_op_28_0_h : sExec mTab mInf sXN sXX sShT 200000 12 470 253 s0 (sB0 28 28 0 0 3 2147483647) sFin = true := by decide +kernel
theorem s_op_28_0_0 : sExec mTab mInf sXN sXX sShT 200000 12 470 253 s0 (sB0 28 28 0 0 0 0) sFin = true := by decide +kernel
theorem s_op_28_0_1 : sExec mTab mInf sXN sXX sShT 200000 12 470 253 s0 (sB0 28 28 0 0 1 1) sFin = true := by decide +kernel
theorem s_op_28_0_2 : sExec mTab mInf sXN sXX sShT 200000 12 470 253 s0 (sB0 28 28 0 0 2 2) sFin = true := by decide +kernel
