/-! THE ROOM: classes run by the kernel (written by wip/p34/gen_run.py) -/
theorem rq_280_3 : runP 280 8323 3 = true := by decide +kernel
theorem rq_280_4 : runP 280 8323 4 = true := by decide +kernel
theorem rq_280_5 : runP 280 8323 5 = true := by decide +kernel
theorem rq_280_6 : runP 280 8323 6 = true := by decide +kernel
theorem rb_29 : runB 281 5 = true := by decide +kernel
theorem rb_30 : runB 286 4 = true := by decide +kernel
theorem rb_31 : runB 290 1 = true := by decide +kernel
theorem rb_32 : runB 291 1 = true := by decide +kernel
theorem rb_33 : runB 292 5 = true := by decide +kernel
theorem rb_34 : runB 297 3 = true := by decide +kernel
theorem rb_35 : runB 300 3 = true := by decide +kernel
theorem rb_36 : runB 303 1 = true := by decide +kernel
theorem rb_37 : runB 304 1 = true := by decide +kernel
theorem rb_38 : runB 305 3 = true := by decide +kernel
theorem rb_39 : runB 308 4 = true := by decide +kernel
theorem rb_40 : runB 312 1 = true := by decide +kernel
theorem rb_41 : runB 313 3 = true := by decide +kernel
theorem rb_42 : runB 316 1 = true := by decide +kernel
theorem rb_43 : runB 317 1 = true := by decide +kernel
theorem rb_44 : runB 318 5 = true := by decide +kernel
theorem rb_45 : runB 323 2 = true := by decide +kernel
theorem rb_46 : runB 325 3 = true := by decide +kernel
theorem rb_47 : runB 328 3 = true := by decide +kernel
theorem rb_48 : runB 331 4 = true := by decide +kernel
theorem rb_49 : runB 335 1 = true := by decide +kernel
theorem rq_336_0 : runP 336 5826 0 = true := by decide +kernel
theorem rq_336_1 : runP 336 5826 1 = true := by decide +kernel
theorem rq_336_2 : runP 336 5826 2 = true := by decide +kernel
theorem rq_336_3 : runP 336 5826 3 = true := by decide +kernel
theorem rq_336_4 : runP 336 5826 4 = true := by decide +kernel
theorem rq_336_5 : runP 336 5826 5 = true := by decide +kernel
