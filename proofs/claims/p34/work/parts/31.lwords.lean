/-! written by a program (wip/p34/gen.py) out of the decode rows and the tables: the words of the law -/

