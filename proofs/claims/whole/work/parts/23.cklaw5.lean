/-! printed by wip/whole/gencode.py: the law's blocks are its bytes -/
