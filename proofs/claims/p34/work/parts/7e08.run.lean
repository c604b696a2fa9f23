/-! THE ROOM: classes run by the kernel (written by wip/p34/gen_run.py) -/
theorem rb_152 : runB 779 1 = true := by decide +kernel
theorem rb_153 : runB 780 3 = true := by decide +kernel
theorem rb_154 : runB 783 4 = true := by decide +kernel
theorem rq_787_0 : runP 787 3884 0 = true := by decide +kernel
theorem rq_787_1 : runP 787 3884 1 = true := by decide +kernel
theorem rq_787_2 : runP 787 3884 2 = true := by decide +kernel
theorem rq_787_3 : runP 787 3884 3 = true := by decide +kernel
theorem rq_787_4 : runP 787 3884 4 = true := by decide +kernel
theorem rq_787_5 : runP 787 3884 5 = true := by decide +kernel
theorem rq_787_6 : runP 787 3884 6 = true := by decide +kernel
theorem rq_787_7 : runP 787 3884 7 = true := by decide +kernel
theorem rq_787_8 : runP 787 3884 8 = true := by decide +kernel
theorem rq_787_9 : runP 787 3884 9 = true := by decide +kernel
theorem rq_787_10 : runP 787 3884 10 = true := by decide +kernel
theorem rq_787_11 : runP 787 3884 11 = true := by decide +kernel
theorem rq_787_12 : runP 787 3884 12 = true := by decide +kernel
theorem rq_787_13 : runP 787 3884 13 = true := by decide +kernel
theorem rq_787_14 : runP 787 3884 14 = true := by decide +kernel
theorem rb_156 : runB 788 2 = true := by decide +kernel
theorem rb_157 : runB 790 1 = true := by decide +kernel
theorem rb_158 : runB 791 2 = true := by decide +kernel
theorem rq_793_0 : runP 793 7282 0 = true := by decide +kernel
theorem rq_793_1 : runP 793 7282 1 = true := by decide +kernel
