/-! THE ROOM: classes run by the kernel (written by wip/p34/gen_run.py) -/
theorem rb_121 : runB 498 3 = true := by decide +kernel
theorem rb_122 : runB 501 5 = true := by decide +kernel
theorem rb_123 : runB 506 1 = true := by decide +kernel
theorem rb_124 : runB 507 1 = true := by decide +kernel
theorem rb_125 : runB 508 2 = true := by decide +kernel
theorem rb_126 : runB 510 6 = true := by decide +kernel
theorem rb_127 : runB 516 11 = true := by decide +kernel
theorem rb_128 : runB 527 12 = true := by decide +kernel
theorem rb_129 : runB 539 14 = true := by decide +kernel
theorem rb_130 : runB 553 18 = true := by decide +kernel
theorem rb_131 : runB 571 13 = true := by decide +kernel
theorem rb_132 : runB 584 19 = true := by decide +kernel
theorem rb_133 : runB 603 18 = true := by decide +kernel
theorem rb_134 : runB 621 10 = true := by decide +kernel
theorem rb_135 : runB 631 13 = true := by decide +kernel
theorem rb_136 : runB 644 15 = true := by decide +kernel
theorem rb_137 : runB 659 10 = true := by decide +kernel
theorem rb_138 : runB 669 17 = true := by decide +kernel
theorem rb_139 : runB 686 13 = true := by decide +kernel
theorem rb_140 : runB 699 12 = true := by decide +kernel
theorem rb_141 : runB 711 17 = true := by decide +kernel
theorem rb_142 : runB 728 13 = true := by decide +kernel
theorem rb_143 : runB 741 5 = true := by decide +kernel
theorem rq_746_0 : runP 746 19419 0 = true := by decide +kernel
theorem rq_746_1 : runP 746 19419 1 = true := by decide +kernel
theorem rq_746_2 : runP 746 19419 2 = true := by decide +kernel
theorem rb_145 : runB 747 21 = true := by decide +kernel
theorem rb_146 : runB 768 2 = true := by decide +kernel
theorem rq_770_0 : runP 770 19419 0 = true := by decide +kernel
theorem rq_770_1 : runP 770 19419 1 = true := by decide +kernel
theorem rq_770_2 : runP 770 19419 2 = true := by decide +kernel
theorem rb_148 : runB 771 3 = true := by decide +kernel
theorem rb_149 : runB 774 1 = true := by decide +kernel
theorem rb_150 : runB 775 1 = true := by decide +kernel
theorem rb_151 : runB 776 3 = true := by decide +kernel
