/-! THE ROOM: classes run by the kernel (written by wip/p34/gen_run.py) -/
theorem rb_62 : runB 362 1 = true := by decide +kernel
theorem rb_63 : runB 363 4 = true := by decide +kernel
theorem rb_64 : runB 367 2 = true := by decide +kernel
theorem rb_65 : runB 369 4 = true := by decide +kernel
theorem rb_66 : runB 373 1 = true := by decide +kernel
theorem rb_67 : runB 374 2 = true := by decide +kernel
theorem rb_68 : runB 376 4 = true := by decide +kernel
theorem rb_69 : runB 380 3 = true := by decide +kernel
theorem rq_383_0 : runP 383 11651 0 = true := by decide +kernel
theorem rq_383_1 : runP 383 11651 1 = true := by decide +kernel
theorem rq_383_2 : runP 383 11651 2 = true := by decide +kernel
theorem rq_383_3 : runP 383 11651 3 = true := by decide +kernel
theorem rq_383_4 : runP 383 11651 4 = true := by decide +kernel
theorem rb_71 : runB 384 2 = true := by decide +kernel
theorem rb_72 : runB 386 3 = true := by decide +kernel
theorem rb_73 : runB 389 1 = true := by decide +kernel
theorem rb_74 : runB 390 2 = true := by decide +kernel
theorem rb_75 : runB 392 2 = true := by decide +kernel
theorem rb_76 : runB 394 6 = true := by decide +kernel
theorem rb_77 : runB 400 1 = true := by decide +kernel
theorem rb_78 : runB 401 2 = true := by decide +kernel
theorem rb_79 : runB 403 2 = true := by decide +kernel
theorem rb_80 : runB 405 1 = true := by decide +kernel
theorem rb_81 : runB 406 1 = true := by decide +kernel
theorem rq_407_0 : runP 407 29128 0 = true := by decide +kernel
theorem rq_407_1 : runP 407 29128 1 = true := by decide +kernel
theorem rb_83 : runB 408 5 = true := by decide +kernel
theorem rb_84 : runB 413 4 = true := by decide +kernel
theorem rb_85 : runB 417 2 = true := by decide +kernel
theorem rb_86 : runB 419 1 = true := by decide +kernel
theorem rq_420_0 : runP 420 11651 0 = true := by decide +kernel
