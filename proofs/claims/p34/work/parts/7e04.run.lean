/-! THE ROOM: classes run by the kernel (written by wip/p34/gen_run.py) -/
theorem rq_420_1 : runP 420 11651 1 = true := by decide +kernel
theorem rq_420_2 : runP 420 11651 2 = true := by decide +kernel
theorem rq_420_3 : runP 420 11651 3 = true := by decide +kernel
theorem rq_420_4 : runP 420 11651 4 = true := by decide +kernel
theorem rb_88 : runB 421 2 = true := by decide +kernel
theorem rb_89 : runB 423 3 = true := by decide +kernel
theorem rb_90 : runB 426 2 = true := by decide +kernel
theorem rb_91 : runB 428 4 = true := by decide +kernel
theorem rb_92 : runB 432 3 = true := by decide +kernel
theorem rb_93 : runB 435 1 = true := by decide +kernel
theorem rb_94 : runB 436 1 = true := by decide +kernel
theorem rb_95 : runB 437 5 = true := by decide +kernel
theorem rb_96 : runB 442 3 = true := by decide +kernel
theorem rb_97 : runB 445 2 = true := by decide +kernel
theorem rb_98 : runB 447 2 = true := by decide +kernel
theorem rb_99 : runB 449 1 = true := by decide +kernel
theorem rb_100 : runB 450 1 = true := by decide +kernel
theorem rb_101 : runB 451 1 = true := by decide +kernel
theorem rb_102 : runB 452 3 = true := by decide +kernel
theorem rb_103 : runB 455 1 = true := by decide +kernel
theorem rq_456_0 : runP 456 29128 0 = true := by decide +kernel
theorem rq_456_1 : runP 456 29128 1 = true := by decide +kernel
theorem rb_105 : runB 457 1 = true := by decide +kernel
theorem rq_458_0 : runP 458 1295 0 = true := by decide +kernel
theorem rq_458_1 : runP 458 1295 1 = true := by decide +kernel
theorem rq_458_2 : runP 458 1295 2 = true := by decide +kernel
theorem rq_458_3 : runP 458 1295 3 = true := by decide +kernel
theorem rq_458_4 : runP 458 1295 4 = true := by decide +kernel
theorem rq_458_5 : runP 458 1295 5 = true := by decide +kernel
theorem rq_458_6 : runP 458 1295 6 = true := by decide +kernel
theorem rq_458_7 : runP 458 1295 7 = true := by decide +kernel
