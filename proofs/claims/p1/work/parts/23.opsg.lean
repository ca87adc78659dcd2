/-! ===== the law run on a script of five, in boxes: written by wip/gen/ops.py ===== -/
theorem s_op_27_3 : sExec mTab mInf sXN sXX sShT 200000 12 470 253 s0 (sB0 27 27 (-2147483648) 2147483647 3 3) sFin = true := by decide +kernel
theorem s_op_27_4 : sExec mTab mInf sXN sXX sShT 200000 12 470 253 s0 (sB0 27 27 (-2147483648) 2147483647 4 4) sFin = true := by decide +kernel
theorem s_op_27_5 : sExec mTab mInf sXN sXX sShT 200000 12 470 253 s0 (sB0 27 27 (-2147483648) 2147483647 5 5) sFin = true := by decide +kernel
