/-! ===== the law run on a script of five, in boxes: written by wip/gen/ops.py ===== -/
theorem s_op_32 : sExec mTab mInf sXN sXX sNo 200000 12 470 253 s0 (sB0 32 32 (-2147483648) 2147483647 (-2147483648) 2147483647) sFin = true := by decide +kernel
