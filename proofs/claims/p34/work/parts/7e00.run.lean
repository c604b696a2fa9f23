/-! THE ROOM: classes run by the kernel (written by wip/p34/gen_run.py) -/
theorem rb_0 : runB 0 11 = true := by decide +kernel
theorem rb_1 : runB 11 21 = true := by decide +kernel
theorem rb_2 : runB 32 11 = true := by decide +kernel
theorem rb_3 : runB 43 17 = true := by decide +kernel
theorem rb_4 : runB 60 20 = true := by decide +kernel
theorem rb_5 : runB 80 8 = true := by decide +kernel
theorem rb_6 : runB 88 13 = true := by decide +kernel
theorem rb_7 : runB 101 6 = true := by decide +kernel
theorem rb_8 : runB 107 12 = true := by decide +kernel
theorem rb_9 : runB 119 14 = true := by decide +kernel
theorem rb_10 : runB 133 14 = true := by decide +kernel
theorem rb_11 : runB 147 23 = true := by decide +kernel
theorem rb_12 : runB 170 10 = true := by decide +kernel
theorem rb_13 : runB 180 20 = true := by decide +kernel
theorem rb_14 : runB 200 14 = true := by decide +kernel
theorem rb_15 : runB 214 20 = true := by decide +kernel
theorem rb_16 : runB 234 18 = true := by decide +kernel
theorem rb_17 : runB 252 5 = true := by decide +kernel
theorem rb_18 : runB 257 2 = true := by decide +kernel
theorem rb_19 : runB 259 2 = true := by decide +kernel
theorem rb_20 : runB 261 2 = true := by decide +kernel
theorem rq_263_0 : runP 263 29128 0 = true := by decide +kernel
theorem rq_263_1 : runP 263 29128 1 = true := by decide +kernel
theorem rb_22 : runB 264 3 = true := by decide +kernel
theorem rb_23 : runB 267 1 = true := by decide +kernel
theorem rb_24 : runB 268 3 = true := by decide +kernel
theorem rb_25 : runB 271 4 = true := by decide +kernel
theorem rb_26 : runB 275 2 = true := by decide +kernel
theorem rb_27 : runB 277 3 = true := by decide +kernel
theorem rq_280_0 : runP 280 8323 0 = true := by decide +kernel
theorem rq_280_1 : runP 280 8323 1 = true := by decide +kernel
theorem rq_280_2 : runP 280 8323 2 = true := by decide +kernel
