/-! THE ROOM: classes run by the kernel (written by wip/p34/gen_run.py) -/
theorem rq_458_33 : runP 458 1295 33 = true := by decide +kernel
theorem rq_458_34 : runP 458 1295 34 = true := by decide +kernel
theorem rq_458_35 : runP 458 1295 35 = true := by decide +kernel
theorem rq_458_36 : runP 458 1295 36 = true := by decide +kernel
theorem rq_458_37 : runP 458 1295 37 = true := by decide +kernel
theorem rq_458_38 : runP 458 1295 38 = true := by decide +kernel
theorem rq_458_39 : runP 458 1295 39 = true := by decide +kernel
theorem rq_458_40 : runP 458 1295 40 = true := by decide +kernel
theorem rq_458_41 : runP 458 1295 41 = true := by decide +kernel
theorem rq_458_42 : runP 458 1295 42 = true := by decide +kernel
theorem rq_458_43 : runP 458 1295 43 = true := by decide +kernel
theorem rq_458_44 : runP 458 1295 44 = true := by decide +kernel
theorem rb_107 : runB 459 3 = true := by decide +kernel
theorem rq_462_0 : runP 462 19419 0 = true := by decide +kernel
theorem rq_462_1 : runP 462 19419 1 = true := by decide +kernel
theorem rq_462_2 : runP 462 19419 2 = true := by decide +kernel
theorem rb_109 : runB 463 6 = true := by decide +kernel
theorem rq_469_0 : runP 469 19419 0 = true := by decide +kernel
theorem rq_469_1 : runP 469 19419 1 = true := by decide +kernel
theorem rq_469_2 : runP 469 19419 2 = true := by decide +kernel
theorem rb_111 : runB 470 7 = true := by decide +kernel
theorem rb_112 : runB 477 3 = true := by decide +kernel
theorem rb_113 : runB 480 2 = true := by decide +kernel
theorem rb_114 : runB 482 1 = true := by decide +kernel
theorem rb_115 : runB 483 4 = true := by decide +kernel
theorem rb_116 : runB 487 2 = true := by decide +kernel
theorem rb_117 : runB 489 3 = true := by decide +kernel
theorem rb_118 : runB 492 2 = true := by decide +kernel
theorem rb_119 : runB 494 2 = true := by decide +kernel
theorem rb_120 : runB 496 2 = true := by decide +kernel
