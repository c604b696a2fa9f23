/-! THE ROOM: classes run by the kernel (written by wip/p34/gen_run.py) -/
theorem rq_793_2 : runP 793 7282 2 = true := by decide +kernel
theorem rq_793_3 : runP 793 7282 3 = true := by decide +kernel
theorem rq_793_4 : runP 793 7282 4 = true := by decide +kernel
theorem rq_793_5 : runP 793 7282 5 = true := by decide +kernel
theorem rq_793_6 : runP 793 7282 6 = true := by decide +kernel
theorem rq_793_7 : runP 793 7282 7 = true := by decide +kernel
theorem rb_160 : runB 794 3 = true := by decide +kernel
theorem rb_161 : runB 797 1 = true := by decide +kernel
theorem rb_162 : runB 798 1 = true := by decide +kernel
theorem rb_163 : runB 799 2 = true := by decide +kernel
theorem rb_164 : runB 801 1 = true := by decide +kernel
theorem rb_165 : runB 802 2 = true := by decide +kernel
theorem rb_166 : runB 804 2 = true := by decide +kernel
theorem rb_167 : runB 806 1 = true := by decide +kernel
theorem rb_168 : runB 807 4 = true := by decide +kernel
theorem rb_169 : runB 811 4 = true := by decide +kernel
theorem rb_170 : runB 815 5 = true := by decide +kernel
theorem rb_171 : runB 820 1 = true := by decide +kernel
theorem rb_172 : runB 821 3 = true := by decide +kernel
theorem rb_173 : runB 824 2 = true := by decide +kernel
theorem rb_174 : runB 826 1 = true := by decide +kernel
theorem rb_175 : runB 827 3 = true := by decide +kernel
theorem rb_176 : runB 830 3 = true := by decide +kernel
theorem rb_177 : runB 833 4 = true := by decide +kernel
theorem rb_178 : runB 837 5 = true := by decide +kernel
theorem rb_179 : runB 842 7 = true := by decide +kernel
theorem rb_180 : runB 849 3 = true := by decide +kernel
theorem rb_181 : runB 852 1 = true := by decide +kernel
theorem rb_182 : runB 853 2 = true := by decide +kernel
theorem rb_183 : runB 855 2 = true := by decide +kernel
theorem rb_184 : runB 857 1 = true := by decide +kernel
theorem rb_185 : runB 858 3 = true := by decide +kernel
theorem rb_186 : runB 861 1 = true := by decide +kernel
theorem rb_187 : runB 862 1 = true := by decide +kernel
