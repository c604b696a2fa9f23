/-! THE ROOM: classes run by the kernel (written by wip/p34/gen_run.py) -/
theorem rq_336_6 : runP 336 5826 6 = true := by decide +kernel
theorem rq_336_7 : runP 336 5826 7 = true := by decide +kernel
theorem rq_336_8 : runP 336 5826 8 = true := by decide +kernel
theorem rq_336_9 : runP 336 5826 9 = true := by decide +kernel
theorem rb_51 : runB 337 1 = true := by decide +kernel
theorem rb_52 : runB 338 2 = true := by decide +kernel
theorem rb_53 : runB 340 1 = true := by decide +kernel
theorem rb_54 : runB 341 1 = true := by decide +kernel
theorem rq_342_0 : runP 342 4855 0 = true := by decide +kernel
theorem rq_342_1 : runP 342 4855 1 = true := by decide +kernel
theorem rq_342_2 : runP 342 4855 2 = true := by decide +kernel
theorem rq_342_3 : runP 342 4855 3 = true := by decide +kernel
theorem rq_342_4 : runP 342 4855 4 = true := by decide +kernel
theorem rq_342_5 : runP 342 4855 5 = true := by decide +kernel
theorem rq_342_6 : runP 342 4855 6 = true := by decide +kernel
theorem rq_342_7 : runP 342 4855 7 = true := by decide +kernel
theorem rq_342_8 : runP 342 4855 8 = true := by decide +kernel
theorem rq_342_9 : runP 342 4855 9 = true := by decide +kernel
theorem rq_342_10 : runP 342 4855 10 = true := by decide +kernel
theorem rq_342_11 : runP 342 4855 11 = true := by decide +kernel
theorem rb_56 : runB 343 3 = true := by decide +kernel
theorem rb_57 : runB 346 3 = true := by decide +kernel
theorem rb_58 : runB 349 3 = true := by decide +kernel
theorem rb_59 : runB 352 1 = true := by decide +kernel
theorem rb_60 : runB 353 6 = true := by decide +kernel
theorem rb_61 : runB 359 3 = true := by decide +kernel
