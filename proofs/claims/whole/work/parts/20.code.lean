/-! printed by wip/whole/gencode.py out of the bytes: the methods as blocks of ops -/
def cd_Integer_signum : List (Nat × List Instr) := [(0, [.iload 0, .iconst 31, .ishr, .iload 0, .ineg, .iconst 31, .iushr, .ior, .ireturn])]
def md_Integer_signum : pm_M := ((⟨"java/lang/Integer", "signum", "(I)I"⟩, prog_17_method_56_code, 1, some .int), (1, 99), cd_Integer_signum)
def cd_Integer_bitCount : List (Nat × List Instr) := [(0, [.iload 0, .iload 0, .iconst 1, .iushr, .iconst 1431655765, .iand, .isub, .istore 0, .iload 0, .iconst 858993459, .iand, .iload 0, .iconst 2, .iushr, .iconst 858993459, .iand, .iadd, .istore 0, .iload 0, .iload 0, .iconst 4, .iushr, .iadd, .iconst 252645135, .iand, .istore 0, .iload 0, .iload 0, .iconst 8, .iushr, .iadd, .istore 0, .iload 0, .iload 0, .iconst 16, .iushr, .iadd, .istore 0, .iload 0, .iconst 63, .iand, .ireturn])]
def md_Integer_bitCount : pm_M := ((⟨"java/lang/Integer", "bitCount", "(I)I"⟩, prog_17_method_49_code, 1, some .int), (1, 99), cd_Integer_bitCount)
def cd_Arrays_fill : List (Nat × List Instr) := [(0, [.iconst 0, .istore 2, .aload 0, .arraylength, .istore 3]),
  (5, [.iload 2, .iload 3, .if_icmp .ge 3]),
  (10, [.aload 0, .iload 2, .iload 1, .iastore, .iinc 2 1, .goto 1]),
  (20, [.return_])]
def md_Arrays_fill : pm_M := ((⟨"java/util/Arrays", "fill", "([II)V"⟩, prog_24_method_103_code, 4, none), (2, 99), cd_Arrays_fill)
def cd_Arrays_copyOf : List (Nat × List Instr) := [(0, [.iload 1, .aload 0, .arraylength, .if_icmp .ne 4]),
  (6, [.aload 0, .athrow]),
  (10, [.athrow]),
  (13, [.areturn]),
  (14, [.iload 1, .newarray .int, .astore 2, .aload 0, .iconst 0, .aload 2, .iconst 0, .aload 0, .arraylength, .iload 1, .dup_x2, .swap, .aload 2, .areturn])]
def md_Arrays_copyOf : pm_M := ((⟨"java/util/Arrays", "copyOf", "([II)[I"⟩, prog_24_method_123_code, 3, some (.array .int)), (2, 99), cd_Arrays_copyOf)
def cd_Chamber_init : List (Nat × List Instr) := [(0, [.aload 0, .monitorenter, .aload 0, .iconst 3, .putfield 0, .aload 0, .iconst 9, .anewarray 2, .putfield 4, .aload 0, .iconst 12, .anewarray 3, .putfield 5, .iconst 0, .istore 1]),
  (29, [.iload 1, .iconst 9, .if_icmp .ge 3]),
  (35, [.aload 0, .getfield 4, .iload 1, .new 3, .dup, .invokespecial 42, .aastore, .iinc 1 1, .goto 1]),
  (54, [.return_])]
def md_Chamber_init : pm_M := ((⟨"QuestionDesk$Chamber", "<init>", "()V"⟩, prog_2_method_1_code, 2, none), (0, 0), cd_Chamber_init)
def cd_Chamber_memberAt : List (Nat × List Instr) := [(0, [.iload 1, .iconst 0, .aload 0, .getfield 2, .iconst 1, .isub, .invokestatic 108, .ifCond .eq 2]),
  (14, [.aload 0, .getfield 4, .iload 1, .aaload, .goto 3]),
  (23, [.aconst_null]),
  (24, [.areturn])]
def md_Chamber_memberAt : pm_M := ((⟨"QuestionDesk$Chamber", "memberAt", "(I)LQuestionDesk$Member;"⟩, prog_2_method_2_code, 2, some (.object "QuestionDesk$Member")), (1, 0), cd_Chamber_memberAt)
def cd_Chamber_treeAt : List (Nat × List Instr) := [(0, [.iload 1, .iconst 0, .aload 0, .getfield 3, .iconst 1, .isub, .invokestatic 108, .ifCond .eq 2]),
  (14, [.aload 0, .getfield 5, .iload 1, .aaload, .goto 3]),
  (23, [.aconst_null]),
  (24, [.areturn])]
def md_Chamber_treeAt : pm_M := ((⟨"QuestionDesk$Chamber", "treeAt", "(I)LQuestionDesk$Tree;"⟩, prog_2_method_3_code, 2, some (.object "QuestionDesk$Tree")), (1, 0), cd_Chamber_treeAt)
def cd_Chamber_takeOver : List (Nat × List Instr) := [(0, [.aload 0, .aload 1, .getfield 0, .putfield 0, .aload 0, .aload 1, .getfield 1, .putfield 1, .aload 0, .aload 1, .getfield 2, .putfield 2, .aload 0, .aload 1, .getfield 3, .putfield 3, .iconst 0, .istore 2]),
  (34, [.iload 2, .aload 0, .getfield 2, .if_icmp .ge 3]),
  (42, [.aload 0, .getfield 4, .iload 2, .aaload, .aload 1, .getfield 4, .iload 2, .aaload, .invokevirtual 45, .iinc 2 1, .goto 1]),
  (63, [.iconst 0, .istore 2]),
  (65, [.iload 2, .aload 0, .getfield 3, .if_icmp .ge 6]),
  (73, [.aload 0, .getfield 5, .iload 2, .aload 1, .getfield 5, .iload 2, .aaload, .aastore, .iinc 2 1, .goto 4]),
  (91, [.return_])]
def md_Chamber_takeOver : pm_M := ((⟨"QuestionDesk$Chamber", "takeOver", "(LQuestionDesk$Chamber;)V"⟩, prog_2_method_4_code, 3, none), (1, 0), cd_Chamber_takeOver)
def cd_Chamber_allVoices : List (Nat × List Instr) := [(0, [.iconst 0, .istore 1, .iconst 0, .istore 2]),
  (4, [.iload 2, .aload 0, .getfield 2, .if_icmp .ge 3]),
  (12, [.iload 1, .aload 0, .getfield 4, .iload 2, .aaload, .getfield 194, .iadd, .istore 1, .iinc 2 1, .goto 1]),
  (30, [.iload 1, .ireturn])]
def md_Chamber_allVoices : pm_M := ((⟨"QuestionDesk$Chamber", "allVoices", "()I"⟩, prog_2_method_5_code, 3, some .int), (0, 0), cd_Chamber_allVoices)
def cd_Chamber_allQuestions : List (Nat × List Instr) := [(0, [.iconst 0, .istore 1, .iconst 0, .istore 2]),
  (4, [.iload 2, .aload 0, .getfield 3, .if_icmp .ge 3]),
  (12, [.iload 1, .aload 0, .getfield 5, .iload 2, .aaload, .getfield 516, .iadd, .istore 1, .iinc 2 1, .goto 1]),
  (30, [.iload 1, .ireturn])]
def md_Chamber_allQuestions : pm_M := ((⟨"QuestionDesk$Chamber", "allQuestions", "()I"⟩, prog_2_method_7_code, 3, some .int), (0, 0), cd_Chamber_allQuestions)
def cd_Chamber_allWeight : List (Nat × List Instr) := [(0, [.iconst 0, .istore 1, .iconst 0, .istore 2]),
  (4, [.iload 2, .aload 0, .getfield 2, .if_icmp .ge 3]),
  (12, [.iload 1, .aload 0, .getfield 4, .iload 2, .aaload, .invokevirtual 44, .iadd, .istore 1, .iinc 2 1, .goto 1]),
  (30, [.iload 1, .ireturn])]
def md_Chamber_allWeight : pm_M := ((⟨"QuestionDesk$Chamber", "allWeight", "()I"⟩, prog_2_method_6_code, 3, some .int), (0, 0), cd_Chamber_allWeight)
def cd_Hall_init : List (Nat × List Instr) := [(0, [.aload 0, .monitorenter, .aload 0, .iconst 9, .anewarray 2, .putfield 67, .aload 0, .iconst 64, .newarray .int, .putfield 68, .aload 0, .iconst 64, .newarray .int, .putfield 69, .aload 0, .iconst 64, .newarray .int, .putfield 70, .aload 0, .iconst 64, .newarray .int, .putfield 71, .aload 0, .iconst 64, .newarray .int, .putfield 72, .aload 0, .iconst 384, .newarray .int, .putfield 73, .aload 0, .iconst 3, .newarray .int, .putfield 74, .aload 0, .iconst 64, .newarray .int, .putfield 75, .iconst 0, .istore 1]),
  (79, [.iload 1, .iconst 9, .if_icmp .ge 3]),
  (85, [.aload 0, .getfield 67, .iload 1, .new 3, .dup, .invokespecial 42, .aastore, .iinc 1 1, .goto 1]),
  (104, [.return_])]
def md_Hall_init : pm_M := ((⟨"QuestionDesk$Hall", "<init>", "()V"⟩, prog_3_method_1_code, 2, none), (0, 1), cd_Hall_init)
def cd_Hall_seat : List (Nat × List Instr) := [(0, [.aload 0, .aload 1, .getfield 2, .putfield 64, .aload 0, .aload 1, .getfield 1, .putfield 65, .aload 0, .iconst 0, .putfield 66, .iconst 0, .istore 2]),
  (23, [.iload 2, .aload 0, .getfield 64, .if_icmp .ge 5]),
  (31, [.aload 0, .getfield 67, .iload 2, .aaload, .aload 1, .getfield 4, .iload 2, .aaload, .invokevirtual 45, .aload 0, .getfield 67, .iload 2, .aaload, .getfield 193, .iconst 2, .if_icmp .ne 4]),
  (59, [.aload 0, .aload 0, .getfield 66, .aload 0, .getfield 67, .iload 2, .aaload, .getfield 195, .dup_x1, .putfield 66]),
  (79, [.iinc 2 1, .goto 1]),
  (85, [.return_])]
def md_Hall_seat : pm_M := ((⟨"QuestionDesk$Hall", "seat", "(LQuestionDesk$Chamber;)V"⟩, prog_3_method_2_code, 3, none), (1, 1), cd_Hall_seat)
def cd_Hall_settle : List (Nat × List Instr) := [(0, [.aload 1, .getfield 512, .iconst 1, .isub, .istore 2]),
  (7, [.iload 2, .ifCond .lt 8]),
  (11, [.aload 1, .getfield 513, .iload 2, .iaload, .istore 3, .iload 3, .iconst 7, .if_icmp .ne 4]),
  (24, [.aload 0, .iload 2, .iload 2, .iconst 1, .iadd, .aload 1, .getfield 514, .iload 2, .iaload, .invokevirtual 14, .goto 7]),
  (41, [.iload 3, .iconst 8, .if_icmp .ne 6]),
  (47, [.aload 1, .getfield 515, .iload 2, .iaload, .istore 4, .aload 0, .iload 2, .iload 2, .iconst 1, .iadd, .aload 1, .getfield 514, .iload 2, .iaload, .aload 0, .iload 4, .iconst 7, .idiv, .iload 4, .iconst 7, .irem, .invokevirtual 22, .invokevirtual 23, .goto 7]),
  (86, [.aload 0, .iload 2, .iload 3, .invokevirtual 24]),
  (92, [.iinc 2 (-1), .goto 1]),
  (98, [.aload 0, .getfield 69, .iconst 0, .iaload, .ireturn])]
def md_Hall_settle : pm_M := ((⟨"QuestionDesk$Hall", "settle", "(LQuestionDesk$Tree;)I"⟩, prog_3_method_9_code, 5, some .int), (1, 1), cd_Hall_settle)
def cd_Hall_settleQuestion : List (Nat × List Instr) := [(0, [.aload 0, .getfield 68, .iload 1, .aload 0, .getfield 68, .iload 2, .iaload, .iastore, .aload 0, .getfield 72, .iload 1, .aload 0, .getfield 72, .iload 2, .iaload, .aload 0, .getfield 72, .iload 3, .iaload, .ior, .iastore, .aload 0, .getfield 71, .iload 1, .aload 0, .iload 2, .iload 3, .invokevirtual 15, .iastore, .aload 0, .getfield 70, .iload 1, .aload 0, .getfield 71, .iload 1, .iaload, .ifCond .gt 3]),
  (57, [.aload 0, .getfield 71, .iload 1, .iaload, .ifCond .ne 4]),
  (66, [.aload 0, .aload 0, .getfield 68, .iload 2, .iaload, .aload 0, .getfield 68, .iload 3, .iaload, .invokevirtual 19, .aload 0, .getfield 68, .iload 2, .iaload, .if_icmp .ne 4]),
  (91, [.iconst 0, .goto 5]),
  (95, [.iconst 1]),
  (96, [.iastore, .aload 0, .getfield 69, .iload 1, .aload 0, .getfield 69, .aload 0, .getfield 70, .iload 1, .iaload, .ifCond .ne 7]),
  (115, [.iload 2, .goto 8]),
  (119, [.iload 3]),
  (120, [.iaload, .iastore, .aload 0, .getfield 73, .iload 1, .aload 0, .getfield 68, .iload 1, .iaload, .iastore, .iconst 1, .istore 4]),
  (137, [.iload 4, .aload 0, .getfield 66, .if_icmp .gt 11]),
  (146, [.iload 4, .iconst 1, .isub, .iconst 64, .imul, .istore 5, .aload 0, .getfield 73, .iload 4, .iconst 64, .imul, .iload 1, .iadd, .aload 0, .aload 0, .getfield 73, .iload 5, .iload 2, .iadd, .iaload, .aload 0, .getfield 73, .iload 5, .iload 3, .iadd, .iaload, .invokevirtual 20, .iastore, .iinc 4 1, .goto 9]),
  (195, [.return_])]
def md_Hall_settleQuestion : pm_M := ((⟨"QuestionDesk$Hall", "settleQuestion", "(III)V"⟩, prog_3_method_12_code, 6, none), (3, 1), cd_Hall_settleQuestion)
def cd_Hall_votesFor : List (Nat × List Instr) := [(0, [.aload 0, .iload 1, .iload 2, .invokevirtual 16, .iconst 0, .istore 3, .iconst 0, .istore 4]),
  (11, [.iload 4, .aload 0, .getfield 64, .if_icmp .ge 3]),
  (20, [.iload 3, .aload 0, .aload 0, .getfield 67, .iload 4, .aaload, .iload 1, .iload 2, .invokevirtual 17, .iadd, .istore 3, .iinc 4 1, .goto 1]),
  (42, [.iload 3, .ireturn])]
def md_Hall_votesFor : pm_M := ((⟨"QuestionDesk$Hall", "votesFor", "(II)I"⟩, prog_3_method_13_code, 5, some .int), (2, 1), cd_Hall_votesFor)
def cd_Hall_drawLines : List (Nat × List Instr) := [(0, [.aload 0, .getfield 74, .iconst 0, .invokestatic 2, .iconst 0, .istore 3]),
  (10, [.iload 3, .aload 0, .getfield 64, .if_icmp .ge 5]),
  (18, [.aload 0, .getfield 67, .iload 3, .aaload, .astore 4, .aload 4, .invokevirtual 47, .ifCond .eq 4]),
  (34, [.aload 0, .getfield 74, .aload 4, .getfield 195, .dup2, .iaload, .aload 4, .getfield 194, .aload 4, .aload 0, .getfield 68, .iload 1, .iaload, .aload 0, .getfield 68, .iload 2, .iaload, .invokevirtual 48, .imul, .iadd, .iastore]),
  (70, [.iinc 3 1, .goto 1]),
  (76, [.iconst 0, .istore 3]),
  (78, [.iload 3, .iconst 3, .if_icmp .ge 8]),
  (83, [.aload 0, .getfield 74, .iload 3, .aload 0, .getfield 74, .iload 3, .iaload, .invokestatic 0, .iastore, .iinc 3 1, .goto 6]),
  (104, [.return_])]
def md_Hall_drawLines : pm_M := ((⟨"QuestionDesk$Hall", "drawLines", "(II)V"⟩, prog_3_method_15_code, 5, none), (2, 1), cd_Hall_drawLines)
def cd_Hall_voteOf : List (Nat × List Instr) := [(0, [.aload 1, .getfield 193, .tableswitch 6 1 5 #[1, 2, 3, 4, 5]]),
  (40, [.aload 1, .getfield 194, .aload 1, .aload 0, .getfield 69, .iload 2, .iaload, .aload 0, .getfield 69, .iload 3, .iaload, .invokevirtual 48, .imul, .ireturn]),
  (62, [.aload 1, .getfield 195, .iconst 64, .imul, .istore 4, .aload 1, .getfield 194, .aload 1, .aload 0, .getfield 73, .iload 4, .iload 2, .iadd, .iaload, .aload 0, .getfield 73, .iload 4, .iload 3, .iadd, .iaload, .invokevirtual 48, .imul, .ireturn]),
  (99, [.aload 1, .getfield 194, .aload 0, .getfield 74, .aload 1, .getfield 195, .iaload, .imul, .ireturn]),
  (114, [.aload 1, .getfield 194, .aload 0, .aload 1, .iload 2, .iload 3, .invokevirtual 18, .imul, .ireturn]),
  (127, [.aload 1, .getfield 194, .iconst 2, .idiv, .istore 5, .iload 5, .aload 1, .aload 0, .getfield 68, .iload 2, .iaload, .aload 0, .getfield 68, .iload 3, .iaload, .invokevirtual 48, .imul, .aload 1, .getfield 194, .iload 5, .isub, .aload 1, .aload 0, .getfield 69, .iload 2, .iaload, .aload 0, .getfield 69, .iload 3, .iaload, .invokevirtual 48, .imul, .iadd, .ireturn]),
  (180, [.aload 1, .getfield 194, .aload 1, .aload 0, .getfield 68, .iload 2, .iaload, .aload 0, .getfield 68, .iload 3, .iaload, .invokevirtual 48, .imul, .ireturn])]
def md_Hall_voteOf : pm_M := ((⟨"QuestionDesk$Hall", "voteOf", "(LQuestionDesk$Member;II)I"⟩, prog_3_method_16_code, 6, some .int), (3, 1), cd_Hall_voteOf)
def cd_Hall_sideOfBought : List (Nat × List Instr) := [(0, [.aload 0, .getfield 72, .iload 2, .iaload, .aload 1, .getfield 196, .ishr, .iconst 1, .iand, .istore 4, .aload 0, .getfield 72, .iload 3, .iaload, .aload 1, .getfield 196, .ishr, .iconst 1, .iand, .istore 5, .iload 4, .iload 5, .if_icmp .ne 2]),
  (37, [.aload 0, .getfield 74, .aload 1, .getfield 195, .iaload, .goto 3]),
  (49, [.iload 4, .iload 5, .isub]),
  (54, [.ireturn])]
def md_Hall_sideOfBought : pm_M := ((⟨"QuestionDesk$Hall", "sideOfBought", "(LQuestionDesk$Member;II)I"⟩, prog_3_method_17_code, 6, some .int), (3, 1), cd_Hall_sideOfBought)
def cd_Hall_chairsOf : List (Nat × List Instr) := [(0, [.aload 0, .getfield 65, .ifCond .ne 2]),
  (7, [.iload 1, .iload 2, .dup_x2, .goto 3]),
  (15, [.iload 1, .iload 2, .dup_x1]),
  (20, [.ireturn])]
def md_Hall_chairsOf : pm_M := ((⟨"QuestionDesk$Hall", "chairsOf", "(II)I"⟩, prog_3_method_8_code, 3, some .int), (2, 1), cd_Hall_chairsOf)
def cd_Hall_better : List (Nat × List Instr) := [(0, [.iload 1, .iload 2, .if_icmp .ne 2]),
  (5, [.iload 1, .ireturn]),
  (7, [.aload 0, .iload 1, .iload 2, .invokevirtual 21, .istore 3, .iload 3, .ifCond .ne 4]),
  (18, [.aload 0, .iload 1, .iload 2, .invokevirtual 19, .goto 7]),
  (27, [.iload 3, .ifCond .le 6]),
  (31, [.iload 1, .goto 7]),
  (35, [.iload 2]),
  (36, [.ireturn])]
def md_Hall_better : pm_M := ((⟨"QuestionDesk$Hall", "better", "(II)I"⟩, prog_3_method_7_code, 4, some .int), (2, 1), cd_Hall_better)
def cd_Hall_margin : List (Nat × List Instr) := [(0, [.iconst 0, .istore 3, .iconst 0, .istore 4]),
  (5, [.iload 4, .aload 0, .getfield 64, .if_icmp .ge 3]),
  (14, [.iload 3, .aload 0, .getfield 67, .iload 4, .aaload, .getfield 194, .aload 0, .getfield 67, .iload 4, .aaload, .iload 1, .iload 2, .invokevirtual 48, .imul, .iadd, .istore 3, .iinc 4 1, .goto 1]),
  (46, [.iload 3, .ireturn])]
def md_Hall_margin : pm_M := ((⟨"QuestionDesk$Hall", "margin", "(II)I"⟩, prog_3_method_5_code, 5, some .int), (2, 1), cd_Hall_margin)
def cd_Hall_beats : List (Nat × List Instr) := [(0, [.iload 1, .iload 2, .if_icmp .eq 3]),
  (5, [.aload 0, .iload 1, .iload 2, .invokevirtual 20, .iload 1, .if_icmp .ne 3]),
  (15, [.iconst 1, .goto 4]),
  (19, [.iconst 0]),
  (20, [.ireturn])]
def md_Hall_beats : pm_M := ((⟨"QuestionDesk$Hall", "beats", "(II)Z"⟩, prog_3_method_6_code, 3, some .boolean), (2, 1), cd_Hall_beats)
def cd_Hall_settleChoice : List (Nat × List Instr) := [(0, [.iload 4, .ifCond .eq 2]),
  (5, [.iload 2, .goto 3]),
  (9, [.iload 3]),
  (10, [.istore 5, .aload 0, .getfield 68, .iload 1, .aload 0, .getfield 68, .iload 5, .iaload, .iastore, .aload 0, .getfield 69, .iload 1, .aload 0, .getfield 69, .iload 5, .iaload, .iastore, .aload 0, .getfield 72, .iload 1, .aload 0, .getfield 72, .iload 2, .iaload, .aload 0, .getfield 72, .iload 3, .iaload, .ior, .iastore, .iconst 0, .istore 6]),
  (60, [.iload 6, .aload 0, .getfield 66, .if_icmp .gt 6]),
  (69, [.aload 0, .getfield 73, .iload 6, .iconst 64, .imul, .iload 1, .iadd, .aload 0, .getfield 73, .iload 6, .iconst 64, .imul, .iload 5, .iadd, .iaload, .iastore, .iinc 6 1, .goto 4]),
  (100, [.return_])]
def md_Hall_settleChoice : pm_M := ((⟨"QuestionDesk$Hall", "settleChoice", "(IIIZ)V"⟩, prog_3_method_11_code, 7, none), (4, 1), cd_Hall_settleChoice)
def cd_Hall_settleEnd : List (Nat × List Instr) := [(0, [.aload 0, .getfield 68, .iload 1, .iload 2, .iastore, .aload 0, .getfield 69, .iload 1, .iload 2, .iastore, .aload 0, .getfield 72, .iload 1, .iconst 1, .iload 2, .ishl, .iastore, .iconst 0, .istore 3]),
  (25, [.iload 3, .aload 0, .getfield 66, .if_icmp .gt 3]),
  (33, [.aload 0, .getfield 73, .iload 3, .iconst 64, .imul, .iload 1, .iadd, .iload 2, .iastore, .iinc 3 1, .goto 1]),
  (51, [.return_])]
def md_Hall_settleEnd : pm_M := ((⟨"QuestionDesk$Hall", "settleEnd", "(II)V"⟩, prog_3_method_10_code, 4, none), (2, 1), cd_Hall_settleEnd)
def cd_Hall_voteIn : List (Nat × List Instr) := [(0, [.aload 0, .iload 1, .iload 2, .invokevirtual 16, .aload 0, .aload 0, .getfield 67, .iload 3, .aaload, .iload 1, .iload 2, .invokevirtual 17, .ireturn])]
def md_Hall_voteIn : pm_M := ((⟨"QuestionDesk$Hall", "voteIn", "(III)I"⟩, prog_3_method_14_code, 4, some .int), (3, 1), cd_Hall_voteIn)
def cd_Hall_makeAll : List (Nat × List Instr) := [(0, [.iconst 0, .istore 2]),
  (2, [.iload 2, .aload 0, .getfield 64, .if_icmp .ge 3]),
  (10, [.aload 0, .getfield 67, .iload 2, .aaload, .iload 1, .putfield 193, .iinc 2 1, .goto 1]),
  (26, [.return_])]
def md_Hall_makeAll : pm_M := ((⟨"QuestionDesk$Hall", "makeAll", "(I)V"⟩, prog_3_method_4_code, 3, none), (1, 1), cd_Hall_makeAll)
def cd_Hall_rememberWinners : List (Nat × List Instr) := [(0, [.aload 0, .getfield 70, .iconst 0, .aload 0, .getfield 75, .iconst 0, .aload 1, .getfield 512, .swap, .return_])]
def md_Hall_rememberWinners : pm_M := ((⟨"QuestionDesk$Hall", "rememberWinners", "(LQuestionDesk$Tree;)V"⟩, prog_3_method_18_code, 2, none), (1, 1), cd_Hall_rememberWinners)
def cd_Hall_firstOtherWinner : List (Nat × List Instr) := [(0, [.iconst 0, .istore 2]),
  (2, [.iload 2, .aload 1, .getfield 512, .if_icmp .ge 6]),
  (10, [.aload 1, .getfield 513, .iload 2, .iaload, .iconst 7, .if_icmp .ne 5]),
  (21, [.aload 0, .getfield 70, .iload 2, .iaload, .aload 0, .getfield 75, .iload 2, .iaload, .if_icmp .eq 5]),
  (36, [.iload 2, .ireturn]),
  (38, [.iinc 2 1, .goto 1]),
  (44, [.iconst (-4), .ireturn])]
def md_Hall_firstOtherWinner : pm_M := ((⟨"QuestionDesk$Hall", "firstOtherWinner", "(LQuestionDesk$Tree;)I"⟩, prog_3_method_19_code, 3, some .int), (1, 1), cd_Hall_firstOtherWinner)
def cd_Hall_killerBits : List (Nat × List Instr) := [(0, [.iconst 0, .istore 3, .iconst 0, .istore 4]),
  (5, [.iload 4, .iload 2, .if_icmp .ge 5]),
  (11, [.aload 0, .getfield 69, .aload 0, .iconst 0, .iload 1, .iload 4, .invokevirtual 30, .iaload, .aload 0, .getfield 69, .iconst 0, .iaload, .if_icmp .eq 4]),
  (33, [.iload 3, .iconst 1, .iload 4, .ishl, .ior, .istore 3]),
  (40, [.iinc 4 1, .goto 1]),
  (46, [.iload 3, .ireturn])]
def md_Hall_killerBits : pm_M := ((⟨"QuestionDesk$Hall", "killerBits", "(II)I"⟩, prog_3_method_21_code, 5, some .int), (2, 1), cd_Hall_killerBits)
def cd_Hall_putAgainst : List (Nat × List Instr) := [(0, [.aload 0, .iload 2, .iload 3, .invokevirtual 24, .aload 0, .iload 2, .iconst 1, .iadd, .iload 1, .iload 2, .invokevirtual 14, .iload 2, .iconst 1, .iadd, .ireturn])]
def md_Hall_putAgainst : pm_M := ((⟨"QuestionDesk$Hall", "putAgainst", "(III)I"⟩, prog_3_method_20_code, 4, some .int), (3, 1), cd_Hall_putAgainst)
def cd_Hall_shieldBits : List (Nat × List Instr) := [(0, [.aload 0, .iconst 0, .iload 1, .iload 2, .invokevirtual 30, .istore 4, .iconst 0, .istore 5, .iconst 0, .istore 6]),
  (15, [.iload 6, .iload 3, .if_icmp .ge 5]),
  (21, [.aload 0, .getfield 69, .aload 0, .iload 4, .iload 4, .iconst 1, .iadd, .iload 6, .invokevirtual 30, .iaload, .aload 0, .getfield 69, .iconst 0, .iaload, .if_icmp .ne 4]),
  (47, [.iload 5, .iconst 1, .iload 6, .ishl, .ior, .istore 5]),
  (56, [.iinc 6 1, .goto 1]),
  (62, [.iload 5, .ireturn])]
def md_Hall_shieldBits : pm_M := ((⟨"QuestionDesk$Hall", "shieldBits", "(III)I"⟩, prog_3_method_22_code, 7, some .int), (3, 1), cd_Hall_shieldBits)
def cd_Hall_seatOthers : List (Nat × List Instr) := [(0, [.aload 0, .iload 1, .putfield 64, .aload 0, .iload 3, .putfield 65, .aload 0, .iconst 0, .putfield 66, .iconst 0, .istore 4]),
  (18, [.iload 4, .aload 0, .getfield 64, .if_icmp .ge 3]),
  (27, [.aload 0, .getfield 67, .iload 4, .aaload, .iload 4, .iload 2, .iconst 1, .iconst 0, .invokevirtual 43, .iinc 4 1, .goto 1]),
  (48, [.return_])]
def md_Hall_seatOthers : pm_M := ((⟨"QuestionDesk$Hall", "seatOthers", "(III)V"⟩, prog_3_method_3_code, 5, none), (3, 1), cd_Hall_seatOthers)
def cd_Laws_init : List (Nat × List Instr) := [(0, [.aload 0, .monitorenter, .aload 0, .iconst 216, .newarray .int, .putfield 131, .aload 0, .aload 1, .putfield 128, .return_])]
def md_Laws_init : pm_M := ((⟨"QuestionDesk$Laws", "<init>", "(LQuestionDesk$Hall;)V"⟩, prog_4_method_1_code, 2, none), (1, 2), cd_Laws_init)
def cd_Laws_assemble : List (Nat × List Instr) := [(0, [.aload 0, .iload 1, .putfield 129, .aload 0, .getfield 128, .iload 1, .iload 2, .iload 3, .invokevirtual 32, .aload 0, .iconst 1, .putfield 130, .iconst 0, .istore 4]),
  (23, [.iload 4, .aload 0, .getfield 129, .if_icmp .ge 3]),
  (32, [.aload 0, .dup, .getfield 130, .iconst 6, .imul, .putfield 130, .iinc 4 1, .goto 1]),
  (49, [.return_])]
def md_Laws_assemble : pm_M := ((⟨"QuestionDesk$Laws", "assemble", "(III)V"⟩, prog_4_method_2_code, 5, none), (3, 2), cd_Laws_assemble)
def cd_Laws_reckonEnds : List (Nat × List Instr) := [(0, [.iconst 0, .istore 2]),
  (2, [.iload 2, .aload 0, .getfield 130, .if_icmp .ge 3]),
  (10, [.aload 0, .iload 2, .invokevirtual 36, .aload 0, .getfield 131, .iload 2, .aload 0, .getfield 128, .aload 1, .invokevirtual 13, .iastore, .iinc 2 1, .goto 1]),
  (35, [.return_])]
def md_Laws_reckonEnds : pm_M := ((⟨"QuestionDesk$Laws", "reckonEnds", "(LQuestionDesk$Tree;)V"⟩, prog_4_method_3_code, 3, none), (1, 2), cd_Laws_reckonEnds)
def cd_Laws_like : List (Nat × List Instr) := [(0, [.iload 1, .istore 2, .aload 0, .getfield 129, .iconst 1, .isub, .istore 3]),
  (9, [.iload 3, .ifCond .lt 3]),
  (13, [.getstatic 2, .iload 2, .iconst 6, .irem, .iconst 3, .imul, .aload 0, .getfield 128, .getfield 67, .iload 3, .aaload, .getfield 198, .iconst 0, .iconst 3, .swap, .iload 2, .iconst 6, .idiv, .istore 2, .iinc 3 (-1), .goto 1]),
  (50, [.return_])]
def md_Laws_like : pm_M := ((⟨"QuestionDesk$Laws", "like", "(I)V"⟩, prog_4_method_9_code, 4, none), (1, 2), cd_Laws_like)
def cd_Laws_firstBreach : List (Nat × List Instr) := [(0, [.iconst 0, .istore 2]),
  (2, [.iload 2, .aload 0, .getfield 130, .if_icmp .ge 8]),
  (10, [.iload 1, .ifCond .ne 4]),
  (14, [.aload 0, .iload 2, .invokevirtual 38, .goto 5]),
  (22, [.aload 0, .iload 1, .iload 2, .invokevirtual 39]),
  (28, [.istore 3, .iload 3, .ifCond .eq 7]),
  (33, [.iload 2, .ireturn]),
  (35, [.iinc 2 1, .goto 1]),
  (41, [.iconst (-4), .ireturn])]
def md_Laws_firstBreach : pm_M := ((⟨"QuestionDesk$Laws", "firstBreach", "(I)I"⟩, prog_4_method_4_code, 4, some .int), (1, 2), cd_Laws_firstBreach)
def cd_Laws_missesBest : List (Nat × List Instr) := [(0, [.aload 0, .iload 1, .invokevirtual 36, .iconst 0, .istore 2]),
  (7, [.iload 2, .iconst 3, .if_icmp .ge 9]),
  (12, [.aload 0, .getfield 128, .iload 2, .iload 2, .iconst 1, .iadd, .iconst 3, .irem, .invokevirtual 22, .ifCond .eq 8]),
  (28, [.aload 0, .getfield 128, .iload 2, .iload 2, .iconst 2, .iadd, .iconst 3, .irem, .invokevirtual 22, .ifCond .eq 8]),
  (44, [.aload 0, .getfield 131, .iload 1, .iaload, .iload 2, .if_icmp .eq 6]),
  (54, [.iconst 1, .goto 7]),
  (58, [.iconst 0]),
  (59, [.ireturn]),
  (60, [.iinc 2 1, .goto 1]),
  (66, [.iconst 0, .ireturn])]
def md_Laws_missesBest : pm_M := ((⟨"QuestionDesk$Laws", "missesBest", "(I)Z"⟩, prog_4_method_5_code, 3, some .boolean), (1, 2), cd_Laws_missesBest)
def cd_Laws_isBrokenByOne : List (Nat × List Instr) := [(0, [.iconst 1, .istore 3, .iload 2, .istore 4, .aload 0, .getfield 129, .iconst 1, .isub, .istore 5]),
  (13, [.iload 5, .ifCond .lt 8]),
  (18, [.iload 4, .iconst 6, .irem, .istore 6, .iload 2, .iload 6, .iload 3, .imul, .isub, .istore 7, .iload 1, .iconst 1, .if_icmp .ne 5]),
  (38, [.aload 0, .iload 7, .iload 3, .iload 6, .invokevirtual 40, .ifCond .eq 7]),
  (50, [.goto 6]),
  (53, [.aload 0, .iload 7, .iload 3, .iload 6, .invokevirtual 41, .ifCond .eq 7]),
  (65, [.iconst 1, .ireturn]),
  (67, [.iload 3, .iconst 6, .imul, .istore 3, .iload 4, .iconst 6, .idiv, .istore 4, .iinc 5 (-1), .goto 1]),
  (85, [.iconst 0, .ireturn])]
def md_Laws_isBrokenByOne : pm_M := ((⟨"QuestionDesk$Laws", "isBrokenByOne", "(II)Z"⟩, prog_4_method_6_code, 8, some .boolean), (2, 2), cd_Laws_isBrokenByOne)
def cd_Laws_fallsWhenLifted : List (Nat × List Instr) := [(0, [.aload 0, .getfield 131, .iload 1, .iload 3, .iload 2, .imul, .iadd, .iaload, .istore 4, .getstatic 2, .iload 3, .iconst 3, .imul, .iload 4, .iadd, .iaload, .istore 5, .iload 5, .ifCond .ne 2]),
  (29, [.iconst 0, .ireturn]),
  (31, [.iload 5, .iconst 1, .if_icmp .ne 4]),
  (37, [.getstatic 3, .iload 3, .iaload, .goto 5]),
  (45, [.getstatic 4, .iload 3, .iaload]),
  (50, [.istore 6, .aload 0, .getfield 131, .iload 1, .iload 6, .iload 2, .imul, .iadd, .iaload, .iload 4, .if_icmp .eq 7]),
  (68, [.iconst 1, .goto 8]),
  (72, [.iconst 0]),
  (73, [.ireturn])]
def md_Laws_fallsWhenLifted : pm_M := ((⟨"QuestionDesk$Laws", "fallsWhenLifted", "(III)Z"⟩, prog_4_method_7_code, 7, some .boolean), (3, 2), cd_Laws_fallsWhenLifted)
def cd_Laws_gainsByLying : List (Nat × List Instr) := [(0, [.iload 3, .iconst 3, .imul, .istore 4, .getstatic 2, .iload 4, .aload 0, .getfield 131, .iload 1, .iload 3, .iload 2, .imul, .iadd, .iaload, .iadd, .iaload, .istore 5, .iconst 0, .istore 6]),
  (27, [.iload 6, .iconst 6, .if_icmp .ge 5]),
  (34, [.getstatic 2, .iload 4, .aload 0, .getfield 131, .iload 1, .iload 6, .iload 2, .imul, .iadd, .iaload, .iadd, .iaload, .iload 5, .if_icmp .ge 4]),
  (57, [.iconst 1, .ireturn]),
  (59, [.iinc 6 1, .goto 1]),
  (65, [.iconst 0, .ireturn])]
def md_Laws_gainsByLying : pm_M := ((⟨"QuestionDesk$Laws", "gainsByLying", "(III)Z"⟩, prog_4_method_8_code, 7, some .boolean), (3, 2), cd_Laws_gainsByLying)
def cd_Member_init : List (Nat × List Instr) := [(0, [.aload 0, .monitorenter, .aload 0, .iconst 7, .newarray .int, .putfield 198, .aload 0, .iconst 7, .newarray .int, .putfield 199, .return_])]
def md_Member_init : pm_M := ((⟨"QuestionDesk$Member", "<init>", "()V"⟩, prog_5_method_1_code, 1, none), (0, 3), cd_Member_init)
def cd_Member_begin : List (Nat × List Instr) := [(0, [.aload 0, .iload 1, .putfield 192, .aload 0, .iload 2, .putfield 193, .aload 0, .iload 3, .putfield 194, .aload 0, .iload 4, .putfield 195, .aload 0, .iconst 0, .putfield 196, .aload 0, .iconst 0, .putfield 197, .aload 0, .getfield 198, .iconst 5, .invokestatic 2, .aload 0, .getfield 199, .iconst 5, .invokestatic 2, .return_])]
def md_Member_begin : pm_M := ((⟨"QuestionDesk$Member", "begin", "(IIII)V"⟩, prog_5_method_2_code, 5, none), (4, 3), cd_Member_begin)
def cd_Member_weight : List (Nat × List Instr) := [(0, [.aload 0, .getfield 193, .tableswitch 6 1 5 #[1, 2, 3, 4, 5]]),
  (40, [.aload 0, .getfield 194, .iconst 1, .iadd, .ireturn]),
  (47, [.aload 0, .getfield 194, .iconst 1, .iadd, .aload 0, .getfield 195, .iadd, .ireturn]),
  (59, [.iconst 2, .aload 0, .getfield 194, .imul, .ireturn]),
  (66, [.iconst 2, .aload 0, .getfield 194, .imul, .iconst 1, .isub, .ireturn]),
  (75, [.aload 0, .getfield 194, .iconst 2, .idiv, .ireturn]),
  (82, [.aload 0, .getfield 194, .ireturn])]
def md_Member_weight : pm_M := ((⟨"QuestionDesk$Member", "weight", "()I"⟩, prog_5_method_5_code, 1, some .int), (0, 3), cd_Member_weight)
def cd_Member_takeOver : List (Nat × List Instr) := [(0, [.aload 0, .aload 1, .getfield 192, .putfield 192, .aload 0, .aload 1, .getfield 193, .putfield 193, .aload 0, .aload 1, .getfield 194, .putfield 194, .aload 0, .aload 1, .getfield 195, .putfield 195, .aload 0, .aload 1, .getfield 196, .putfield 196, .aload 0, .aload 1, .getfield 197, .putfield 197, .aload 0, .aload 1, .getfield 198, .invokevirtual 46, .aload 1, .getfield 199, .iconst 0, .aload 0, .getfield 199, .iconst 0, .iconst 7, .swap, .return_])]
def md_Member_takeOver : pm_M := ((⟨"QuestionDesk$Member", "takeOver", "(LQuestionDesk$Member;)V"⟩, prog_5_method_3_code, 2, none), (1, 3), cd_Member_takeOver)
def cd_Member_tellWishes : List (Nat × List Instr) := [(0, [.aload 1, .iconst 0, .aload 0, .getfield 198, .iconst 0, .iconst 7, .swap, .return_])]
def md_Member_tellWishes : pm_M := ((⟨"QuestionDesk$Member", "tellWishes", "([I)V"⟩, prog_5_method_4_code, 2, none), (1, 3), cd_Member_tellWishes)
def cd_Member_ofParty : List (Nat × List Instr) := [(0, [.aload 0, .getfield 193, .iconst 3, .if_icmp .eq 2]),
  (8, [.aload 0, .getfield 193, .iconst 4, .if_icmp .ne 3]),
  (16, [.iconst 1, .goto 4]),
  (20, [.iconst 0]),
  (21, [.ireturn])]
def md_Member_ofParty : pm_M := ((⟨"QuestionDesk$Member", "ofParty", "()Z"⟩, prog_5_method_7_code, 1, some .boolean), (0, 3), cd_Member_ofParty)
def cd_Member_leaning : List (Nat × List Instr) := [(0, [.aload 0, .getfield 198, .iload 1, .iaload, .aload 0, .getfield 198, .iload 2, .iaload, .if_icmp .ne 2]),
  (15, [.iconst 0, .ireturn]),
  (17, [.aload 0, .getfield 198, .iload 1, .iaload, .aload 0, .getfield 198, .iload 2, .iaload, .if_icmp .ge 4]),
  (32, [.iconst 1, .goto 5]),
  (36, [.iconst (-1)]),
  (37, [.ireturn])]
def md_Member_leaning : pm_M := ((⟨"QuestionDesk$Member", "leaning", "(II)I"⟩, prog_5_method_6_code, 3, some .int), (2, 3), cd_Member_leaning)
def cd_Orders_init : List (Nat × List Instr) := [(0, [.aload 0, .monitorenter, .aload 0, .iconst 7, .newarray .int, .putfield 258, .aload 0, .iconst 7, .newarray .int, .putfield 259, .aload 0, .iconst 128, .newarray .int, .putfield 260, .return_])]
def md_Orders_init : pm_M := ((⟨"QuestionDesk$Orders", "<init>", "()V"⟩, prog_6_method_1_code, 1, none), (0, 4), cd_Orders_init)
def cd_Orders_weigh : List (Nat × List Instr) := [(0, [.aload 0, .iload 2, .putfield 256, .aload 0, .iconst 1, .aload 0, .getfield 256, .ishl, .iconst 1, .isub, .putfield 257, .aload 0, .getfield 258, .iconst 0, .invokestatic 2, .iconst 0, .istore 3]),
  (27, [.iload 3, .aload 0, .getfield 256, .if_icmp .ge 6]),
  (35, [.iload 3, .iconst 1, .iadd, .istore 4]),
  (40, [.iload 4, .aload 0, .getfield 256, .if_icmp .ge 5]),
  (49, [.aload 1, .iload 3, .iload 4, .invokevirtual 20, .istore 5, .iload 3, .iload 4, .iadd, .iload 5, .isub, .istore 6, .aload 0, .getfield 258, .iload 5, .dup2, .iaload, .iconst 1, .iload 6, .ishl, .ior, .iastore, .iinc 4 1, .goto 3]),
  (87, [.iinc 3 1, .goto 1]),
  (93, [.return_])]
def md_Orders_weigh : pm_M := ((⟨"QuestionDesk$Orders", "weigh", "(LQuestionDesk$Hall;I)V"⟩, prog_6_method_2_code, 7, none), (2, 4), cd_Orders_weigh)
def cd_Orders_lineUp : List (Nat × List Instr) := [(0, [.iload 2, .iconst 2, .if_icmp .lt 2]),
  (5, [.iload 2, .aload 0, .getfield 256, .if_icmp .le 3]),
  (13, [.iconst 0, .ireturn]),
  (15, [.iconst 0, .istore 3, .iconst 0, .istore 4]),
  (20, [.iload 4, .iload 2, .if_icmp .ge 9]),
  (26, [.aload 1, .iload 4, .iaload, .iconst 0, .aload 0, .getfield 256, .iconst 1, .isub, .invokestatic 108, .ifCond .eq 7]),
  (43, [.iload 3, .aload 1, .iload 4, .iaload, .ishr, .iconst 1, .iand, .iconst 1, .if_icmp .ne 8]),
  (55, [.iconst 0, .ireturn]),
  (57, [.iload 3, .iconst 1, .aload 1, .iload 4, .iaload, .ishl, .ior, .istore 3, .aload 0, .getfield 259, .iload 4, .aload 1, .iload 4, .iaload, .iastore, .iinc 4 1, .goto 4]),
  (83, [.iconst 1, .ireturn])]
def md_Orders_lineUp : pm_M := ((⟨"QuestionDesk$Orders", "lineUp", "([II)Z"⟩, prog_6_method_7_code, 5, some .boolean), (2, 4), cd_Orders_lineUp)
def cd_Orders_comesOf : List (Nat × List Instr) := [(0, [.iload 2, .ifCond .eq 2]),
  (4, [.aload 0, .iload 1, .invokevirtual 53, .goto 3]),
  (12, [.aload 0, .iload 1, .invokevirtual 54]),
  (17, [.ireturn])]
def md_Orders_comesOf : pm_M := ((⟨"QuestionDesk$Orders", "comesOf", "(IZ)I"⟩, prog_6_method_8_code, 3, some .int), (2, 4), cd_Orders_comesOf)
def cd_Orders_comesDeep : List (Nat × List Instr) := [(0, [.aload 0, .getfield 259, .iload 1, .iconst 1, .isub, .iaload, .istore 2, .iconst 1, .iload 2, .ishl, .istore 3, .iload 1, .iconst 2, .isub, .istore 4]),
  (18, [.iload 4, .ifCond .lt 5]),
  (23, [.aload 0, .getfield 258, .aload 0, .getfield 259, .iload 4, .iaload, .iaload, .iload 3, .iand, .iload 3, .if_icmp .ne 4]),
  (41, [.aload 0, .getfield 259, .iload 4, .iaload, .istore 2, .iload 3, .iconst 1, .iload 2, .ishl, .ior, .istore 3]),
  (55, [.iinc 4 (-1), .goto 1]),
  (61, [.iload 2, .ireturn])]
def md_Orders_comesDeep : pm_M := ((⟨"QuestionDesk$Orders", "comesDeep", "(I)I"⟩, prog_6_method_10_code, 5, some .int), (1, 4), cd_Orders_comesDeep)
def cd_Orders_comesPlain : List (Nat × List Instr) := [(0, [.aload 0, .getfield 259, .iconst 0, .iaload, .istore 2, .iconst 1, .istore 3]),
  (9, [.iload 3, .iload 1, .if_icmp .ge 5]),
  (14, [.aload 0, .getfield 258, .aload 0, .getfield 259, .iload 3, .iaload, .iaload, .iload 2, .ishr, .iconst 1, .iand, .iconst 1, .if_icmp .ne 4]),
  (33, [.aload 0, .getfield 259, .iload 3, .iaload, .istore 2]),
  (40, [.iinc 3 1, .goto 1]),
  (46, [.iload 2, .ireturn])]
def md_Orders_comesPlain : pm_M := ((⟨"QuestionDesk$Orders", "comesPlain", "(I)I"⟩, prog_6_method_9_code, 4, some .int), (1, 4), cd_Orders_comesPlain)
def cd_Orders_reachBits : List (Nat × List Instr) := [(0, [.iload 1, .ifCond .eq 2]),
  (4, [.aload 0, .invokevirtual 56, .goto 3]),
  (11, [.aload 0, .invokevirtual 59]),
  (15, [.ireturn])]
def md_Orders_reachBits : pm_M := ((⟨"QuestionDesk$Orders", "reachBits", "(Z)I"⟩, prog_6_method_11_code, 2, some .int), (1, 4), cd_Orders_reachBits)
def cd_Orders_peakBits : List (Nat × List Instr) := [(0, [.iconst 0, .istore 1, .iconst 1, .istore 2]),
  (4, [.iload 2, .aload 0, .getfield 257, .if_icmp .gt 6]),
  (12, [.aload 0, .getfield 260, .iload 2, .aload 0, .iload 2, .invokevirtual 57, .iastore, .aload 0, .getfield 260, .iload 2, .iaload, .iconst (-4), .if_icmp .eq 5]),
  (34, [.aload 0, .iload 2, .invokevirtual 58, .ifCond .ne 5]),
  (42, [.iload 1, .iconst 1, .aload 0, .getfield 260, .iload 2, .iaload, .ishl, .ior, .istore 1]),
  (53, [.iinc 2 1, .goto 1]),
  (59, [.iload 1, .ireturn])]
def md_Orders_peakBits : pm_M := ((⟨"QuestionDesk$Orders", "peakBits", "()I"⟩, prog_6_method_12_code, 3, some .int), (0, 4), cd_Orders_peakBits)
def cd_Orders_peakOf : List (Nat × List Instr) := [(0, [.iconst 0, .istore 2]),
  (2, [.iload 2, .aload 0, .getfield 256, .if_icmp .ge 8]),
  (10, [.iload 1, .iconst 1, .iload 2, .ishl, .iconst (-1), .ixor, .iand, .istore 3, .iload 3, .iload 1, .if_icmp .eq 7]),
  (23, [.aload 0, .getfield 258, .iload 2, .iaload, .iload 3, .iand, .iload 3, .if_icmp .ne 7]),
  (35, [.iload 3, .ifCond .eq 6]),
  (39, [.aload 0, .getfield 260, .iload 3, .iaload, .iconst (-4), .if_icmp .eq 7]),
  (50, [.iload 2, .ireturn]),
  (52, [.iinc 2 1, .goto 1]),
  (58, [.iconst (-4), .ireturn])]
def md_Orders_peakOf : pm_M := ((⟨"QuestionDesk$Orders", "peakOf", "(I)I"⟩, prog_6_method_13_code, 4, some .int), (1, 4), cd_Orders_peakOf)
def cd_Orders_isBeatenWhole : List (Nat × List Instr) := [(0, [.iconst 0, .istore 2]),
  (2, [.iload 2, .aload 0, .getfield 256, .if_icmp .ge 5]),
  (10, [.aload 0, .getfield 258, .iload 2, .iaload, .iload 1, .iand, .iload 1, .if_icmp .ne 4]),
  (22, [.iconst 1, .ireturn]),
  (24, [.iinc 2 1, .goto 1]),
  (30, [.iconst 0, .ireturn])]
def md_Orders_isBeatenWhole : pm_M := ((⟨"QuestionDesk$Orders", "isBeatenWhole", "(I)Z"⟩, prog_6_method_14_code, 3, some .boolean), (1, 4), cd_Orders_isBeatenWhole)
def cd_Orders_topBits : List (Nat × List Instr) := [(0, [.iconst 0, .istore 1, .iconst 0, .istore 2]),
  (4, [.iload 2, .aload 0, .getfield 256, .if_icmp .ge 5]),
  (12, [.aload 0, .iload 2, .invokevirtual 60, .aload 0, .getfield 257, .if_icmp .ne 4]),
  (24, [.iload 1, .iconst 1, .iload 2, .ishl, .ior, .istore 1]),
  (30, [.iinc 2 1, .goto 1]),
  (36, [.iload 1, .ireturn])]
def md_Orders_topBits : pm_M := ((⟨"QuestionDesk$Orders", "topBits", "()I"⟩, prog_6_method_17_code, 3, some .int), (0, 4), cd_Orders_topBits)
def cd_Orders_reachedFrom : List (Nat × List Instr) := [(0, [.iconst 1, .iload 1, .ishl, .istore 2, .iconst 0, .istore 3]),
  (6, [.iload 3, .aload 0, .getfield 256, .if_icmp .ge 8]),
  (14, [.iconst 0, .istore 4]),
  (17, [.iload 4, .aload 0, .getfield 256, .if_icmp .ge 7]),
  (26, [.iload 2, .iload 4, .ishr, .iconst 1, .iand, .iconst 1, .if_icmp .ne 6]),
  (36, [.iload 2, .aload 0, .getfield 258, .iload 4, .iaload, .ior, .istore 2]),
  (46, [.iinc 4 1, .goto 3]),
  (52, [.iinc 3 1, .goto 1]),
  (58, [.iload 2, .ireturn])]
def md_Orders_reachedFrom : pm_M := ((⟨"QuestionDesk$Orders", "reachedFrom", "(I)I"⟩, prog_6_method_18_code, 5, some .int), (1, 4), cd_Orders_reachedFrom)
def cd_Orders_firstFor : List (Nat × List Instr) := [(0, [.aload 0, .iload 2, .invokevirtual 55, .iload 1, .ishr, .iconst 1, .iand, .ifCond .ne 2]),
  (12, [.iconst (-4), .ireturn]),
  (15, [.aload 0, .getfield 257, .aload 0, .getfield 259, .invokestatic 62, .istore 3, .iconst 0, .istore 4]),
  (30, [.iload 4, .iconst 5040, .if_icmp .ge 9]),
  (38, [.aload 0, .iload 3, .iload 2, .invokevirtual 52, .iload 1, .if_icmp .ne 6]),
  (48, [.aload 0, .getfield 259, .iload 3, .invokestatic 63, .ireturn]),
  (57, [.aload 0, .getfield 259, .iconst 0, .iload 3, .invokestatic 64, .ifCond .ne 8]),
  (69, [.iconst (-4), .ireturn]),
  (72, [.iinc 4 1, .goto 3]),
  (78, [.iconst (-4), .ireturn])]
def md_Orders_firstFor : pm_M := ((⟨"QuestionDesk$Orders", "firstFor", "(IZ)I"⟩, prog_6_method_15_code, 5, some .int), (2, 4), cd_Orders_firstFor)
def cd_Orders_spread : List (Nat × List Instr) := [(0, [.iconst 0, .istore 2, .iconst 0, .istore 3]),
  (4, [.iload 3, .iconst 7, .if_icmp .ge 5]),
  (10, [.iload 0, .iload 3, .ishr, .iconst 1, .iand, .iconst 1, .if_icmp .ne 4]),
  (19, [.aload 1, .iload 2, .iload 3, .iastore, .iinc 2 1]),
  (26, [.iinc 3 1, .goto 1]),
  (32, [.iload 2, .ireturn])]
def md_Orders_spread : pm_M := ((⟨"QuestionDesk$Orders", "spread", "(I[I)I"⟩, prog_6_method_5_code, 4, some .int), (2, 99), cd_Orders_spread)
def cd_Orders_digits : List (Nat × List Instr) := [(0, [.iconst 0, .istore 2, .iload 1, .iconst 1, .isub, .istore 3]),
  (6, [.iload 3, .ifCond .lt 3]),
  (10, [.iload 2, .iconst 8, .imul, .aload 0, .iload 3, .iaload, .iadd, .istore 2, .iinc 3 (-1), .goto 1]),
  (25, [.iload 2, .ireturn])]
def md_Orders_digits : pm_M := ((⟨"QuestionDesk$Orders", "digits", "([II)I"⟩, prog_6_method_6_code, 4, some .int), (2, 99), cd_Orders_digits)
def cd_Orders_nextRow : List (Nat × List Instr) := [(0, [.iload 2, .iconst 2, .isub, .istore 3]),
  (4, [.iload 3, .iload 1, .if_icmp .lt 4]),
  (9, [.aload 0, .iload 3, .iaload, .aload 0, .iload 3, .iconst 1, .iadd, .iaload, .if_icmp .le 4]),
  (20, [.iinc 3 (-1), .goto 1]),
  (26, [.iload 3, .iload 1, .if_icmp .ge 6]),
  (31, [.iconst 0, .ireturn]),
  (33, [.iload 2, .iconst 1, .isub, .istore 4]),
  (38, [.iload 4, .iload 3, .iconst 1, .iadd, .if_icmp .le 10]),
  (46, [.aload 0, .iload 4, .iaload, .aload 0, .iload 3, .iaload, .if_icmp .ge 10]),
  (56, [.iinc 4 (-1), .goto 7]),
  (62, [.aload 0, .iload 3, .iload 4, .invokestatic 65, .iload 3, .iconst 1, .iadd, .istore 5, .iload 2, .iconst 1, .isub, .istore 6]),
  (79, [.iload 5, .iload 6, .if_icmp .ge 13]),
  (86, [.aload 0, .iload 5, .iload 6, .invokestatic 65, .iinc 5 1, .iinc 6 (-1), .goto 11]),
  (103, [.iconst 1, .ireturn])]
def md_Orders_nextRow : pm_M := ((⟨"QuestionDesk$Orders", "nextRow", "([III)Z"⟩, prog_6_method_3_code, 7, some .boolean), (3, 99), cd_Orders_nextRow)
def cd_Orders_change : List (Nat × List Instr) := [(0, [.aload 0, .iload 1, .iaload, .istore 3, .aload 0, .iload 1, .aload 0, .iload 2, .iaload, .iastore, .aload 0, .iload 2, .iload 3, .iastore, .return_])]
def md_Orders_change : pm_M := ((⟨"QuestionDesk$Orders", "change", "([III)V"⟩, prog_6_method_4_code, 4, none), (3, 99), cd_Orders_change)
def cd_Orders_beatsAll : List (Nat × List Instr) := [(0, [.iconst 0, .istore 1]),
  (2, [.iload 1, .aload 0, .getfield 256, .if_icmp .ge 5]),
  (10, [.aload 0, .getfield 258, .iload 1, .iaload, .iconst 1, .iload 1, .ishl, .ior, .aload 0, .getfield 257, .if_icmp .ne 4]),
  (27, [.iload 1, .ireturn]),
  (29, [.iinc 1 1, .goto 1]),
  (35, [.iconst (-4), .ireturn])]
def md_Orders_beatsAll : pm_M := ((⟨"QuestionDesk$Orders", "beatsAll", "()I"⟩, prog_6_method_16_code, 2, some .int), (0, 4), cd_Orders_beatsAll)
def cd_Orders_uncoveredBits : List (Nat × List Instr) := [(0, [.iconst 0, .istore 1, .iconst 0, .istore 2]),
  (4, [.iload 2, .aload 0, .getfield 256, .if_icmp .ge 5]),
  (12, [.aload 0, .aload 0, .getfield 258, .iload 2, .iaload, .iconst 1, .iload 2, .ishl, .ior, .invokevirtual 58, .ifCond .ne 4]),
  (29, [.iload 1, .iconst 1, .iload 2, .ishl, .ior, .istore 1]),
  (35, [.iinc 2 1, .goto 1]),
  (41, [.iload 1, .ireturn])]
def md_Orders_uncoveredBits : pm_M := ((⟨"QuestionDesk$Orders", "uncoveredBits", "()I"⟩, prog_6_method_19_code, 3, some .int), (0, 4), cd_Orders_uncoveredBits)
def cd_Orders_ringAt : List (Nat × List Instr) := [(0, [.aload 0, .invokevirtual 59, .aload 0, .getfield 259, .invokestatic 62, .istore 2, .iload 2, .iconst 3, .if_icmp .lt 2]),
  (17, [.iload 1, .iload 2, .if_icmp .lt 3]),
  (22, [.iconst (-4), .ireturn]),
  (25, [.iconst 0, .istore 3]),
  (27, [.iload 3, .iconst 5040, .if_icmp .ge 10]),
  (34, [.aload 0, .iload 2, .invokevirtual 69, .ifCond .eq 7]),
  (42, [.aload 0, .getfield 259, .iload 1, .iaload, .ireturn]),
  (49, [.aload 0, .getfield 259, .iconst 1, .iload 2, .invokestatic 64, .ifCond .ne 9]),
  (61, [.iconst (-4), .ireturn]),
  (64, [.iinc 3 1, .goto 4]),
  (70, [.iconst (-4), .ireturn])]
def md_Orders_ringAt : pm_M := ((⟨"QuestionDesk$Orders", "ringAt", "(I)I"⟩, prog_6_method_20_code, 4, some .int), (1, 4), cd_Orders_ringAt)
def cd_Orders_isRing : List (Nat × List Instr) := [(0, [.iconst 0, .istore 2]),
  (2, [.iload 2, .iload 1, .if_icmp .ge 8]),
  (7, [.iload 2, .iconst 1, .iadd, .iload 1, .if_icmp .ge 4]),
  (14, [.aload 0, .getfield 259, .iload 2, .iconst 1, .iadd, .iaload, .goto 5]),
  (25, [.aload 0, .getfield 259, .iconst 0, .iaload]),
  (31, [.istore 3, .aload 0, .getfield 258, .aload 0, .getfield 259, .iload 2, .iaload, .iaload, .iload 3, .ishr, .iconst 1, .iand, .ifCond .ne 7]),
  (50, [.iconst 0, .ireturn]),
  (52, [.iinc 2 1, .goto 1]),
  (58, [.iconst 1, .ireturn])]
def md_Orders_isRing : pm_M := ((⟨"QuestionDesk$Orders", "isRing", "(I)Z"⟩, prog_6_method_21_code, 4, some .boolean), (1, 4), cd_Orders_isRing)
def cd_Orders_byRanks : List (Nat × List Instr) := [(0, [.iconst 1, .iload 2, .ishl, .iconst 1, .isub, .istore 3, .iconst 0, .istore 4]),
  (9, [.iload 4, .iload 2, .if_icmp .ge 3]),
  (15, [.aload 0, .getfield 259, .iload 4, .iload 3, .aload 1, .iload 2, .invokestatic 71, .iastore, .iload 3, .iconst 1, .aload 0, .getfield 259, .iload 4, .iaload, .ishl, .iconst (-1), .ixor, .iand, .istore 3, .iinc 4 1, .goto 1]),
  (48, [.aload 0, .getfield 259, .iload 2, .invokestatic 63, .ireturn])]
def md_Orders_byRanks : pm_M := ((⟨"QuestionDesk$Orders", "byRanks", "([II)I"⟩, prog_6_method_22_code, 5, some .int), (2, 4), cd_Orders_byRanks)
def cd_Orders_greatestOf : List (Nat × List Instr) := [(0, [.iconst 0, .istore 3, .iconst 0, .istore 4, .iconst 0, .istore 5]),
  (8, [.iload 5, .iload 2, .if_icmp .ge 7]),
  (14, [.iload 0, .iload 5, .ishr, .iconst 1, .iand, .iconst 1, .if_icmp .ne 6]),
  (24, [.iload 4, .ifCond .eq 5]),
  (29, [.aload 1, .iload 5, .iaload, .aload 1, .iload 3, .iaload, .if_icmp .le 6]),
  (39, [.iload 5, .istore 3, .iconst 1, .istore 4]),
  (45, [.iinc 5 1, .goto 1]),
  (51, [.iload 3, .ireturn])]
def md_Orders_greatestOf : pm_M := ((⟨"QuestionDesk$Orders", "greatestOf", "(I[II)I"⟩, prog_6_method_23_code, 6, some .int), (3, 99), cd_Orders_greatestOf)
def cd_Plots_init : List (Nat × List Instr) := [(0, [.aload 0, .monitorenter, .aload 0, .iconst 6, .newarray .int, .putfield 322, .aload 0, .iconst 7, .newarray .int, .putfield 323, .aload 0, .iconst 7, .newarray .int, .putfield 324, .aload 0, .iconst 7, .newarray .int, .putfield 325, .aload 0, .iconst 7, .newarray .int, .putfield 326, .aload 0, .aload 1, .putfield 320, .aload 0, .aload 2, .putfield 321, .return_])]
def md_Plots_init : pm_M := ((⟨"QuestionDesk$Plots", "<init>", "(LQuestionDesk$Chamber;LQuestionDesk$Hall;)V"⟩, prog_7_method_1_code, 3, none), (2, 5), cd_Plots_init)
def cd_Plots_plainOnes : List (Nat × List Instr) := [(0, [.iconst 0, .istore 1, .iconst 0, .istore 2]),
  (4, [.iload 2, .aload 0, .getfield 320, .getfield 2, .if_icmp .ge 5]),
  (15, [.aload 0, .getfield 320, .getfield 4, .iload 2, .aaload, .getfield 193, .ifCond .ne 4]),
  (30, [.iload 1, .iconst 1, .iload 2, .ishl, .ior, .istore 1]),
  (36, [.iinc 2 1, .goto 1]),
  (42, [.iload 1, .ireturn])]
def md_Plots_plainOnes : pm_M := ((⟨"QuestionDesk$Plots", "plainOnes", "()I"⟩, prog_7_method_2_code, 3, some .int), (0, 5), cd_Plots_plainOnes)
def cd_Plots_fewestOf : List (Nat × List Instr) := [(0, [.aload 0, .getfield 321, .aload 0, .getfield 320, .invokevirtual 12, .iload 1, .invokestatic 1, .istore 5, .iconst 0, .istore 6]),
  (20, [.iload 6, .iload 5, .if_icmp .gt 10]),
  (27, [.iconst 0, .istore 7]),
  (30, [.iload 7, .iload 1, .if_icmp .gt 9]),
  (36, [.iload 7, .iload 1, .iconst (-1), .ixor, .iand, .ifCond .ne 8]),
  (45, [.iload 7, .invokestatic 1, .iload 6, .if_icmp .ne 8]),
  (55, [.aload 0, .iload 7, .iload 2, .iload 4, .invokevirtual 75, .aload 0, .getfield 321, .aload 3, .invokevirtual 13, .iload 4, .if_icmp .ne 8]),
  (77, [.iload 7, .ireturn]),
  (80, [.iinc 7 1, .goto 3]),
  (86, [.iinc 6 1, .goto 1]),
  (92, [.iconst (-4), .ireturn])]
def md_Plots_fewestOf : pm_M := ((⟨"QuestionDesk$Plots", "fewestOf", "(IILQuestionDesk$Tree;I)I"⟩, prog_7_method_4_code, 8, some .int), (4, 5), cd_Plots_fewestOf)
def cd_Plots_makeOfKind : List (Nat × List Instr) := [(0, [.iconst 0, .istore 4]),
  (3, [.iload 4, .aload 0, .getfield 320, .getfield 2, .if_icmp .ge 15]),
  (15, [.aload 0, .getfield 320, .getfield 4, .iload 4, .aaload, .astore 5, .aload 0, .getfield 321, .getfield 67, .iload 4, .aaload, .astore 6, .iload 1, .iload 4, .ishr, .iconst 1, .iand, .iconst 1, .if_icmp .ne 4]),
  (49, [.iconst 1, .goto 5]),
  (53, [.iconst 0]),
  (54, [.istore 7, .aload 6, .iload 7, .ifCond .eq 7]),
  (63, [.iload 2, .goto 8]),
  (67, [.aload 5, .getfield 193]),
  (72, [.putfield 193, .aload 6, .iload 7, .ifCond .eq 10]),
  (82, [.iconst 0, .goto 11]),
  (86, [.aload 5, .getfield 195]),
  (91, [.putfield 195, .aload 6, .iload 7, .ifCond .eq 13]),
  (101, [.iload 3, .goto 14]),
  (105, [.aload 5, .getfield 196]),
  (110, [.putfield 196, .iinc 4 1, .goto 1]),
  (119, [.return_])]
def md_Plots_makeOfKind : pm_M := ((⟨"QuestionDesk$Plots", "makeOfKind", "(III)V"⟩, prog_7_method_5_code, 8, none), (3, 5), cd_Plots_makeOfKind)
def cd_Plots_firstGaining : List (Nat × List Instr) := [(0, [.aload 0, .getfield 321, .aload 0, .getfield 320, .invokevirtual 12, .aload 0, .getfield 321, .aload 1, .invokevirtual 13, .istore 3, .iconst 0, .istore 4]),
  (23, [.iload 4, .aload 0, .getfield 320, .getfield 2, .if_icmp .ge 5]),
  (35, [.aload 0, .getfield 320, .getfield 4, .iload 4, .aaload, .getfield 198, .astore 5, .aload 0, .getfield 321, .getfield 67, .iload 4, .aaload, .aload 2, .invokevirtual 46, .aload 0, .getfield 321, .aload 1, .invokevirtual 13, .istore 6, .aload 0, .getfield 321, .getfield 67, .iload 4, .aaload, .aload 5, .invokevirtual 46, .aload 5, .iload 6, .iaload, .aload 5, .iload 3, .iaload, .if_icmp .ge 4]),
  (101, [.iload 4, .ireturn]),
  (104, [.iinc 4 1, .goto 1]),
  (110, [.iconst (-4), .ireturn])]
def md_Plots_firstGaining : pm_M := ((⟨"QuestionDesk$Plots", "firstGaining", "(LQuestionDesk$Tree;[I)I"⟩, prog_7_method_6_code, 7, some .int), (2, 5), cd_Plots_firstGaining)
def cd_Plots_chanceOf : List (Nat × List Instr) := [(0, [.aload 0, .invokevirtual 78, .istore 3, .goto_w 0, .lstore 4, .iconst 0, .istore 6]),
  (11, [.iload 6, .iconst 1, .iload 3, .ishl, .if_icmp .ge 6]),
  (19, [.aload 0, .iload 6, .iload 3, .invokevirtual 79, .lstore 7, .lload 7, .goto_w 0, .lcmp, .ifCond .le 5]),
  (35, [.aload 0, .getfield 321, .aload 1, .invokevirtual 13, .iload 2, .if_icmp .ne 5]),
  (47, [.lload 4, .lload 7, .ladd, .lstore 4]),
  (54, [.iinc 6 1, .goto 1]),
  (60, [.lload 4, .lreturn])]
def md_Plots_chanceOf : pm_M := ((⟨"QuestionDesk$Plots", "chanceOf", "(LQuestionDesk$Tree;I)J"⟩, prog_7_method_9_code, 9, some .long), (2, 5), cd_Plots_chanceOf)
def cd_Plots_seatDoubtful : List (Nat × List Instr) := [(0, [.aload 0, .getfield 321, .aload 0, .getfield 320, .invokevirtual 12, .iconst 0, .istore 1, .iconst 0, .istore 2]),
  (15, [.iload 2, .aload 0, .getfield 320, .getfield 2, .if_icmp .ge 6]),
  (26, [.iload 1, .iconst 6, .if_icmp .ge 6]),
  (32, [.aload 0, .getfield 320, .getfield 4, .iload 2, .aaload, .getfield 197, .ifCond .le 5]),
  (47, [.aload 0, .getfield 322, .iload 1, .iload 2, .iastore, .iinc 1 1]),
  (57, [.iinc 2 1, .goto 1]),
  (63, [.iload 1, .ireturn])]
def md_Plots_seatDoubtful : pm_M := ((⟨"QuestionDesk$Plots", "seatDoubtful", "()I"⟩, prog_7_method_7_code, 3, some .int), (0, 5), cd_Plots_seatDoubtful)
def cd_Plots_suppose : List (Nat × List Instr) := [(0, [.goto_w 1, .lstore 3, .iconst 0, .istore 5]),
  (5, [.iload 5, .iload 2, .if_icmp .ge 12]),
  (11, [.aload 0, .getfield 320, .getfield 4, .aload 0, .getfield 322, .iload 5, .iaload, .aaload, .astore 6, .iload 1, .iload 5, .ishr, .iconst 1, .iand, .iconst 1, .if_icmp .ne 4]),
  (38, [.iconst 1, .goto 5]),
  (42, [.iconst 0]),
  (43, [.istore 7, .aload 0, .getfield 321, .getfield 67, .aload 0, .getfield 322, .iload 5, .iaload, .aaload, .iload 7, .ifCond .eq 7]),
  (65, [.aload 6, .getfield 199, .goto 8]),
  (73, [.aload 6, .getfield 198]),
  (78, [.invokevirtual 46, .lload 3, .iload 7, .ifCond .eq 10]),
  (87, [.aload 6, .getfield 197, .i2l, .goto 11]),
  (96, [.iconst 100, .aload 6, .getfield 197, .isub, .i2l]),
  (105, [.lmul, .lstore 3, .iinc 5 1, .goto 1]),
  (113, [.lload 3, .lreturn])]
def md_Plots_suppose : pm_M := ((⟨"QuestionDesk$Plots", "suppose", "(II)J"⟩, prog_7_method_8_code, 8, some .long), (2, 5), cd_Plots_suppose)
def cd_Plots_allOnes : List (Nat × List Instr) := [(0, [.iconst 1, .aload 0, .getfield 320, .getfield 2, .ishl, .iconst 1, .isub, .ireturn])]
def md_Plots_allOnes : pm_M := ((⟨"QuestionDesk$Plots", "allOnes", "()I"⟩, prog_7_method_3_code, 1, some .int), (0, 5), cd_Plots_allOnes)
def cd_Plots_findLie : List (Nat × List Instr) := [(0, [.aload 0, .getfield 321, .aload 0, .getfield 320, .invokevirtual 12, .aload 0, .getfield 320, .getfield 4, .iload 2, .aaload, .getfield 198, .astore 3, .aload 0, .getfield 321, .getfield 67, .iload 2, .aaload, .getfield 198, .astore 4, .aload 4, .iconst 9, .invokestatic 2, .aload 0, .aload 1, .invokevirtual 82, .aload 0, .getfield 323, .invokestatic 62, .istore 5, .aload 3, .aload 1, .getfield 517, .invokestatic 84, .istore 6, .iconst 10, .istore 7, .iconst 0, .istore 8]),
  (76, [.iload 8, .iconst 5040, .if_icmp .ge 11]),
  (84, [.iconst 0, .istore 9]),
  (87, [.iload 9, .iload 5, .if_icmp .ge 5]),
  (94, [.aload 4, .aload 0, .getfield 323, .iload 9, .iaload, .iload 9, .iastore, .iinc 9 1, .goto 3]),
  (112, [.aload 0, .getfield 321, .aload 1, .invokevirtual 13, .istore 9, .aload 3, .iload 9, .iaload, .iload 7, .if_icmp .ge 7]),
  (131, [.aload 3, .iload 9, .iaload, .istore 7, .aload 0, .iload 9, .putfield 327, .aload 0, .getfield 323, .iconst 0, .aload 0, .getfield 324, .iconst 0, .iload 5, .swap]),
  (158, [.iload 7, .iload 6, .if_icmp .eq 9]),
  (165, [.aload 0, .getfield 323, .iconst 0, .iload 5, .invokestatic 64, .ifCond .ne 10]),
  (178, [.return_]),
  (179, [.iinc 8 1, .goto 1]),
  (185, [.return_])]
def md_Plots_findLie : pm_M := ((⟨"QuestionDesk$Plots", "findLie", "(LQuestionDesk$Tree;I)V"⟩, prog_7_method_13_code, 10, none), (2, 5), cd_Plots_findLie)
def cd_Plots_mattering : List (Nat × List Instr) := [(0, [.aload 1, .getfield 517, .aload 1, .getfield 518, .ior, .aload 0, .invokevirtual 83, .iand, .ireturn])]
def md_Plots_mattering : pm_M := ((⟨"QuestionDesk$Plots", "mattering", "(LQuestionDesk$Tree;)I"⟩, prog_7_method_12_code, 2, some .int), (1, 5), cd_Plots_mattering)
def cd_Plots_there : List (Nat × List Instr) := [(0, [.iconst 1, .aload 0, .getfield 320, .getfield 0, .ishl, .iconst 1, .isub, .ireturn])]
def md_Plots_there : pm_M := ((⟨"QuestionDesk$Plots", "there", "()I"⟩, prog_7_method_11_code, 1, some .int), (0, 5), cd_Plots_there)
def cd_Plots_leastWish : List (Nat × List Instr) := [(0, [.iconst 9, .istore 2, .iconst 0, .istore 3]),
  (5, [.iload 3, .iconst 7, .if_icmp .ge 5]),
  (11, [.iload 1, .iload 3, .ishr, .iconst 1, .iand, .iconst 1, .if_icmp .ne 4]),
  (20, [.iload 2, .aload 0, .iload 3, .iaload, .dup_x2, .istore 2]),
  (28, [.iinc 3 1, .goto 1]),
  (34, [.iload 2, .ireturn])]
def md_Plots_leastWish : pm_M := ((⟨"QuestionDesk$Plots", "leastWish", "([II)I"⟩, prog_7_method_14_code, 4, some .int), (2, 99), cd_Plots_leastWish)
def cd_Plots_lieDigits : List (Nat × List Instr) := [(0, [.aload 0, .aload 1, .invokevirtual 82, .invokestatic 1, .istore 2, .aload 0, .invokevirtual 83, .aload 0, .aload 1, .invokevirtual 82, .iconst (-1), .ixor, .iand, .aload 0, .getfield 325, .invokestatic 62, .istore 3, .iconst 0, .istore 4, .iconst 0, .istore 5, .iconst 0, .istore 6]),
  (38, [.iload 6, .aload 0, .getfield 320, .getfield 0, .if_icmp .ge 11]),
  (50, [.iload 5, .iload 3, .if_icmp .ge 5]),
  (56, [.iload 4, .iload 2, .if_icmp .ge 6]),
  (62, [.aload 0, .getfield 324, .iload 4, .iaload, .aload 0, .getfield 325, .iload 5, .iaload, .if_icmp .ge 6]),
  (79, [.iconst 1, .goto 7]),
  (83, [.iconst 0]),
  (84, [.istore 7, .iload 7, .ifCond .eq 9]),
  (91, [.aload 0, .getfield 326, .iload 6, .aload 0, .getfield 324, .iload 4, .iaload, .iastore, .iinc 4 1, .goto 10]),
  (111, [.aload 0, .getfield 326, .iload 6, .aload 0, .getfield 325, .iload 5, .iaload, .iastore, .iinc 5 1]),
  (128, [.iinc 6 1, .goto 1]),
  (134, [.aload 0, .getfield 326, .aload 0, .getfield 320, .getfield 0, .invokestatic 63, .ireturn])]
def md_Plots_lieDigits : pm_M := ((⟨"QuestionDesk$Plots", "lieDigits", "(LQuestionDesk$Tree;)I"⟩, prog_7_method_15_code, 8, some .int), (1, 5), cd_Plots_lieDigits)
def cd_Plots_beatsIn : List (Nat × List Instr) := [(0, [.aload 0, .invokevirtual 78, .istore 4, .iconst 0, .istore 5]),
  (9, [.iload 5, .iconst 1, .iload 4, .ishl, .if_icmp .ge 8]),
  (18, [.aload 0, .iload 5, .iload 4, .invokevirtual 79, .pop2, .aload 0, .getfield 321, .iload 1, .iload 2, .invokevirtual 22, .iload 3, .if_icmp .eq 7]),
  (40, [.iload 3, .ifCond .ne 5]),
  (44, [.iconst 1, .goto 6]),
  (48, [.iconst 0]),
  (49, [.ireturn]),
  (50, [.iinc 5 1, .goto 1]),
  (56, [.iload 3, .ireturn])]
def md_Plots_beatsIn : pm_M := ((⟨"QuestionDesk$Plots", "beatsIn", "(IIZ)Z"⟩, prog_7_method_10_code, 6, some .boolean), (3, 5), cd_Plots_beatsIn)
def cd_Reader_init : List (Nat × List Instr) := [(0, [.aload 0, .monitorenter, .aload 0, .iconst 120, .newarray .int, .putfield 389, .aload 0, .iconst 120, .newarray .int, .putfield 390, .aload 0, .iconst 120, .newarray .int, .putfield 391, .return_])]
def md_Reader_init : pm_M := ((⟨"QuestionDesk$Reader", "<init>", "()V"⟩, prog_8_method_1_code, 1, none), (0, 6), cd_Reader_init)
def cd_Reader_faultOf : List (Nat × List Instr) := [(0, [.aload 0, .aload 1, .putfield 384, .aload 0, .iload 2, .putfield 385, .aload 0, .iload 3, .putfield 386, .aload 0, .iconst 0, .putfield 387, .aload 0, .iconst 0, .putfield 388, .aload 0, .iconst 0, .invokevirtual 89, .istore 4, .iload 4, .ifCond .eq 3]),
  (37, [.aload 0, .getfield 387, .aload 0, .getfield 385, .if_icmp .ne 3]),
  (48, [.iconst (-1), .goto 4]),
  (52, [.aload 0, .getfield 387]),
  (56, [.ireturn])]
def md_Reader_faultOf : pm_M := ((⟨"QuestionDesk$Reader", "faultOf", "([III)I"⟩, prog_8_method_2_code, 5, some .int), (3, 6), cd_Reader_faultOf)
def cd_Reader_readPart : List (Nat × List Instr) := [(0, [.aload 0, .getfield 387, .aload 0, .getfield 385, .if_icmp .lt 2]),
  (11, [.iconst 0, .ireturn]),
  (13, [.aload 0, .getfield 384, .aload 0, .getfield 387, .iaload, .iconst 40, .if_icmp .ne 8]),
  (27, [.iload 1, .iconst 6, .if_icmp .ge 6]),
  (33, [.aload 0, .iload 1, .invokevirtual 90, .ifCond .eq 6]),
  (41, [.iconst 1, .goto 7]),
  (45, [.iconst 0]),
  (46, [.ireturn]),
  (47, [.aload 0, .getfield 384, .aload 0, .getfield 387, .iaload, .iconst 123, .if_icmp .ne 14]),
  (61, [.iload 1, .iconst 6, .if_icmp .ge 12]),
  (67, [.aload 0, .iload 1, .invokevirtual 93, .ifCond .eq 12]),
  (75, [.iconst 1, .goto 13]),
  (79, [.iconst 0]),
  (80, [.ireturn]),
  (81, [.aload 0, .invokevirtual 95, .istore 2, .iload 2, .ifCond .ge 16]),
  (90, [.iconst 0, .ireturn]),
  (92, [.aload 0, .iload 2, .invokevirtual 91, .pop, .iconst 1, .ireturn])]
def md_Reader_readPart : pm_M := ((⟨"QuestionDesk$Reader", "readPart", "(I)Z"⟩, prog_8_method_4_code, 3, some .boolean), (1, 6), cd_Reader_readPart)
def cd_Reader_readQuestion : List (Nat × List Instr) := [(0, [.aload 0, .iconst 7, .invokevirtual 91, .istore 2, .aload 0, .iconst 40, .invokevirtual 92, .ifCond .eq 3]),
  (16, [.aload 0, .iload 1, .iconst 1, .iadd, .invokevirtual 89, .ifCond .eq 3]),
  (26, [.aload 0, .iconst 118, .invokevirtual 92, .ifCond .ne 4]),
  (35, [.iconst 0, .ireturn]),
  (37, [.aload 0, .getfield 390, .iload 2, .aload 0, .getfield 388, .iastore, .aload 0, .iload 1, .iconst 1, .iadd, .invokevirtual 89, .ifCond .eq 7]),
  (57, [.aload 0, .iconst 41, .invokevirtual 92, .ifCond .eq 7]),
  (66, [.iconst 1, .goto 8]),
  (70, [.iconst 0]),
  (71, [.ireturn])]
def md_Reader_readQuestion : pm_M := ((⟨"QuestionDesk$Reader", "readQuestion", "(I)Z"⟩, prog_8_method_5_code, 3, some .boolean), (1, 6), cd_Reader_readQuestion)
def cd_Reader_addNode : List (Nat × List Instr) := [(0, [.aload 0, .getfield 388, .istore 2, .aload 0, .getfield 389, .iload 2, .iload 1, .iastore, .aload 0, .getfield 390, .iload 2, .iconst 0, .iastore, .aload 0, .getfield 391, .iload 2, .iconst 0, .iastore, .aload 0, .dup, .getfield 388, .iconst 1, .iadd, .putfield 388, .iload 2, .ireturn])]
def md_Reader_addNode : pm_M := ((⟨"QuestionDesk$Reader", "addNode", "(I)I"⟩, prog_8_method_10_code, 3, some .int), (1, 6), cd_Reader_addNode)
def cd_Reader_readSign : List (Nat × List Instr) := [(0, [.aload 0, .getfield 387, .aload 0, .getfield 385, .if_icmp .ge 2]),
  (11, [.aload 0, .getfield 384, .aload 0, .getfield 387, .iaload, .iload 1, .if_icmp .eq 3]),
  (24, [.iconst 0, .ireturn]),
  (26, [.aload 0, .dup, .getfield 387, .iconst 1, .iadd, .putfield 387, .iconst 1, .ireturn])]
def md_Reader_readSign : pm_M := ((⟨"QuestionDesk$Reader", "readSign", "(C)Z"⟩, prog_8_method_9_code, 2, some .boolean), (1, 6), cd_Reader_readSign)
def cd_Reader_readChoice : List (Nat × List Instr) := [(0, [.aload 0, .iconst 8, .invokevirtual 91, .istore 2, .aload 0, .iconst 123, .invokevirtual 92, .ifCond .eq 4]),
  (16, [.aload 0, .iload 2, .invokevirtual 94, .ifCond .eq 4]),
  (24, [.aload 0, .iload 1, .iconst 1, .iadd, .invokevirtual 89, .ifCond .eq 4]),
  (34, [.aload 0, .iconst 47, .invokevirtual 92, .ifCond .ne 5]),
  (43, [.iconst 0, .ireturn]),
  (45, [.aload 0, .getfield 390, .iload 2, .aload 0, .getfield 388, .iastore, .aload 0, .iload 1, .iconst 1, .iadd, .invokevirtual 89, .ifCond .eq 8]),
  (65, [.aload 0, .iconst 125, .invokevirtual 92, .ifCond .eq 8]),
  (74, [.iconst 1, .goto 9]),
  (78, [.iconst 0]),
  (79, [.ireturn])]
def md_Reader_readChoice : pm_M := ((⟨"QuestionDesk$Reader", "readChoice", "(I)Z"⟩, prog_8_method_6_code, 3, some .boolean), (1, 6), cd_Reader_readChoice)
def cd_Reader_readPair : List (Nat × List Instr) := [(0, [.aload 0, .invokevirtual 95, .istore 2, .iload 2, .ifCond .lt 2]),
  (9, [.aload 0, .iconst 62, .invokevirtual 92, .ifCond .ne 3]),
  (18, [.iconst 0, .ireturn]),
  (20, [.aload 0, .invokevirtual 95, .istore 3, .iload 3, .ifCond .ge 5]),
  (29, [.iconst 0, .ireturn]),
  (31, [.aload 0, .getfield 391, .iload 1, .iload 2, .iconst 7, .imul, .iload 3, .iadd, .iastore, .aload 0, .iconst 58, .invokevirtual 92, .ireturn])]
def md_Reader_readPair : pm_M := ((⟨"QuestionDesk$Reader", "readPair", "(I)Z"⟩, prog_8_method_7_code, 4, some .boolean), (1, 6), cd_Reader_readPair)
def cd_Reader_readEnd : List (Nat × List Instr) := [(0, [.aload 0, .getfield 387, .aload 0, .getfield 385, .if_icmp .ge 2]),
  (11, [.aload 0, .getfield 384, .aload 0, .getfield 387, .iaload, .iconst 48, .isub, .iconst 0, .aload 0, .getfield 386, .iconst 1, .isub, .invokestatic 108, .ifCond .ne 3]),
  (36, [.iconst (-1), .ireturn]),
  (38, [.aload 0, .getfield 384, .aload 0, .getfield 387, .iaload, .iconst 48, .isub, .istore 1, .aload 0, .dup, .getfield 387, .iconst 1, .iadd, .putfield 387, .iload 1, .ireturn])]
def md_Reader_readEnd : pm_M := ((⟨"QuestionDesk$Reader", "readEnd", "()I"⟩, prog_8_method_8_code, 2, some .int), (0, 6), cd_Reader_readEnd)
def cd_Reader_treeRead : List (Nat × List Instr) := [(0, [.new 8, .dup, .aload 0, .getfield 388, .aload 0, .getfield 389, .aload 0, .getfield 388, .invokestatic 3, .aload 0, .getfield 390, .aload 0, .getfield 388, .invokestatic 3, .aload 0, .getfield 391, .aload 0, .getfield 388, .invokestatic 3, .invokespecial 103, .areturn])]
def md_Reader_treeRead : pm_M := ((⟨"QuestionDesk$Reader", "treeRead", "()LQuestionDesk$Tree;"⟩, prog_8_method_3_code, 1, some (.object "QuestionDesk$Tree")), (0, 6), cd_Reader_treeRead)
def cd_Shelf_init : List (Nat × List Instr) := [(0, [.aload 0, .monitorenter, .aload 0, .new 3, .dup, .invokespecial 42, .putfield 451, .aload 0, .iconst 120, .newarray .int, .putfield 452, .return_])]
def md_Shelf_init : pm_M := ((⟨"QuestionDesk$Shelf", "<init>", "()V"⟩, prog_9_method_1_code, 1, none), (0, 7), cd_Shelf_init)
def cd_Shelf_isA : List (Nat × List Instr) := [(0, [.iload 1, .iconst 3, .if_icmp .ne 5]),
  (5, [.aload 0, .getfield 448, .iconst 2, .if_icmp .ne 4]),
  (13, [.aload 0, .getfield 449, .ifCond .ne 4]),
  (20, [.iconst 1, .goto 8]),
  (24, [.iconst 0, .goto 8]),
  (28, [.aload 0, .getfield 448, .iload 1, .if_icmp .ne 7]),
  (36, [.iconst 1, .goto 8]),
  (40, [.iconst 0]),
  (41, [.ireturn])]
def md_Shelf_isA : pm_M := ((⟨"QuestionDesk$Shelf", "isA", "(I)Z"⟩, prog_9_method_4_code, 2, some .boolean), (1, 7), cd_Shelf_isA)
def cd_Shelf_holdsWishes : List (Nat × List Instr) := [(0, [.aload 0, .getfield 450, .iconst 7, .if_icmp .eq 2]),
  (9, [.iconst 0, .ireturn]),
  (11, [.iconst 0, .istore 1]),
  (13, [.iload 1, .iconst 7, .if_icmp .ge 7]),
  (19, [.aload 0, .getfield 452, .iload 1, .iaload, .iconst 0, .iconst 9, .invokestatic 108, .ifCond .ne 6]),
  (34, [.iconst 0, .ireturn]),
  (36, [.iinc 1 1, .goto 3]),
  (42, [.iconst 1, .ireturn])]
def md_Shelf_holdsWishes : pm_M := ((⟨"QuestionDesk$Shelf", "holdsWishes", "()Z"⟩, prog_9_method_6_code, 2, some .boolean), (0, 7), cd_Shelf_holdsWishes)
def cd_Shelf_beginRow : List (Nat × List Instr) := [(0, [.aload 0, .iconst 2, .putfield 448, .aload 0, .iload 1, .putfield 449, .aload 0, .iload 2, .putfield 450, .aload 0, .getfield 452, .iconst 0, .invokestatic 2, .return_])]
def md_Shelf_beginRow : pm_M := ((⟨"QuestionDesk$Shelf", "beginRow", "(II)V"⟩, prog_9_method_2_code, 3, none), (2, 7), cd_Shelf_beginRow)
def cd_Shelf_lowestBits : List (Nat × List Instr) := [(0, [.aload 0, .getfield 449, .lookupswitch 3 #[(0, 1), (1, 2)]]),
  (32, [.iload 1, .i2b, .ireturn]),
  (35, [.iload 1, .i2s, .ireturn]),
  (38, [.iload 1, .ireturn])]
def md_Shelf_lowestBits : pm_M := ((⟨"QuestionDesk$Shelf", "lowestBits", "(I)I"⟩, prog_9_method_3_code, 2, some .int), (1, 7), cd_Shelf_lowestBits)
def cd_Shelf_hasPlaces : List (Nat × List Instr) := [(0, [.iload 1, .iconst 0, .aload 0, .getfield 450, .invokestatic 108, .ifCond .eq 3]),
  (12, [.iload 2, .iconst 0, .aload 0, .getfield 450, .iload 1, .isub, .invokestatic 108, .ifCond .eq 3]),
  (26, [.iconst 1, .goto 4]),
  (30, [.iconst 0]),
  (31, [.ireturn])]
def md_Shelf_hasPlaces : pm_M := ((⟨"QuestionDesk$Shelf", "hasPlaces", "(II)Z"⟩, prog_9_method_5_code, 3, some .boolean), (2, 7), cd_Shelf_hasPlaces)
def cd_Tree_init : List (Nat × List Instr) := [(0, [.aload 0, .monitorenter, .aload 0, .iload 1, .putfield 512, .aload 0, .aload 2, .putfield 513, .aload 0, .aload 3, .putfield 514, .aload 0, .aload 4, .putfield 515, .iconst 0, .istore 5, .iconst 0, .istore 6, .iconst 0, .istore 7, .iconst 0, .istore 8]),
  (37, [.iload 8, .iload 1, .if_icmp .ge 8]),
  (43, [.aload 2, .iload 8, .iaload, .iconst 7, .if_icmp .ne 4]),
  (52, [.iinc 5 1, .goto 7]),
  (58, [.aload 2, .iload 8, .iaload, .iconst 8, .if_icmp .ne 6]),
  (67, [.iload 7, .iconst 1, .aload 4, .iload 8, .iaload, .iconst 7, .idiv, .ishl, .iconst 1, .aload 4, .iload 8, .iaload, .iconst 7, .irem, .ishl, .ior, .ior, .istore 7, .goto 7]),
  (96, [.iload 6, .iconst 1, .aload 2, .iload 8, .iaload, .ishl, .ior, .istore 6]),
  (107, [.iinc 8 1, .goto 1]),
  (113, [.aload 0, .iload 5, .putfield 516, .aload 0, .iload 6, .putfield 517, .aload 0, .iload 7, .putfield 518, .return_])]
def md_Tree_init : pm_M := ((⟨"QuestionDesk$Tree", "<init>", "(I[I[I[I)V"⟩, prog_10_method_1_code, 9, none), (4, 8), cd_Tree_init)
def cd_Tree_nodeOf : List (Nat × List Instr) := [(0, [.iload 1, .istore 2, .iconst 0, .istore 3]),
  (4, [.iload 3, .aload 0, .getfield 512, .if_icmp .ge 7]),
  (12, [.aload 0, .getfield 513, .iload 3, .iaload, .iconst 7, .if_icmp .ne 6]),
  (23, [.iload 2, .ifCond .ne 5]),
  (27, [.iload 3, .ireturn]),
  (29, [.iinc 2 (-1)]),
  (32, [.iinc 3 1, .goto 1]),
  (38, [.iconst 0, .ireturn])]
def md_Tree_nodeOf : pm_M := ((⟨"QuestionDesk$Tree", "nodeOf", "(I)I"⟩, prog_10_method_2_code, 4, some .int), (1, 8), cd_Tree_nodeOf)
def cd_Tree_questionsAhead : List (Nat × List Instr) := [(0, [.iconst 0, .istore 2, .iconst 0, .istore 3]),
  (4, [.iload 3, .iload 1, .if_icmp .ge 5]),
  (9, [.aload 0, .getfield 513, .iload 3, .iaload, .iconst 7, .if_icmp .ne 4]),
  (20, [.iinc 2 1]),
  (23, [.iinc 3 1, .goto 1]),
  (29, [.iload 2, .ireturn])]
def md_Tree_questionsAhead : pm_M := ((⟨"QuestionDesk$Tree", "questionsAhead", "(I)I"⟩, prog_10_method_3_code, 4, some .int), (1, 8), cd_Tree_questionsAhead)
def cd_Desk_init : List (Nat × List Instr) := [(0, [.aload 0, .monitorenter, .aload 0, .new 0, .dup, .invokespecial 4, .putfield 576, .aload 0, .new 0, .dup, .invokespecial 4, .putfield 577, .aload 0, .iconst 8, .anewarray 4, .putfield 579, .aload 0, .new 6, .dup, .invokespecial 87, .putfield 580, .aload 0, .new 1, .dup, .invokespecial 11, .putfield 581, .aload 0, .new 4, .dup, .invokespecial 49, .putfield 582, .aload 0, .new 5, .dup, .aload 0, .getfield 576, .aload 0, .getfield 581, .invokespecial 72, .putfield 583, .aload 0, .new 2, .dup, .aload 0, .getfield 581, .invokespecial 33, .putfield 584, .iconst 0, .istore 1]),
  (104, [.iload 1, .iconst 8, .if_icmp .ge 3]),
  (110, [.aload 0, .getfield 579, .iload 1, .new 7, .dup, .invokespecial 97, .aastore, .iinc 1 1, .goto 1]),
  (129, [.return_])]
def md_Desk_init : pm_M := ((⟨"QuestionDesk", "<init>", "()V"⟩, prog_1_method_1_code, 2, none), (0, 9), cd_Desk_init)
def cd_Desk_set : List (Nat × List Instr) := [(0, [.iload 1, .ifCond .ne 3]),
  (4, [.iload 2, .iconst 1, .iconst 7, .invokestatic 108, .ifCond .eq 3]),
  (14, [.aload 0, .getfield 576, .getfield 0, .istore 3, .aload 0, .getfield 576, .iload 2, .putfield 0, .iload 3, .ireturn]),
  (32, [.iload 1, .iconst 1, .if_icmp .ne 6]),
  (37, [.iload 2, .iconst 0, .iconst 1, .invokestatic 108, .ifCond .eq 6]),
  (46, [.aload 0, .getfield 576, .getfield 1, .istore 3, .aload 0, .getfield 576, .iload 2, .putfield 1, .iload 3, .ireturn]),
  (64, [.iconst (-1), .ireturn])]
def md_Desk_set : pm_M := ((⟨"QuestionDesk", "set", "(II)I"⟩, prog_1_method_2_code, 4, some .int), (2, 9), cd_Desk_set)
def cd_Desk_within : List (Nat × List Instr) := [(0, [.iload 0, .iload 1, .if_icmp .lt 3]),
  (5, [.iload 0, .iload 2, .if_icmp .gt 3]),
  (10, [.iconst 1, .goto 4]),
  (14, [.iconst 0]),
  (15, [.ireturn])]
def md_Desk_within : pm_M := ((⟨"QuestionDesk", "within", "(III)Z"⟩, prog_1_method_48_code, 3, some .boolean), (3, 99), cd_Desk_within)
def cd_Desk_member : List (Nat × List Instr) := [(0, [.iload 2, .ifCond .lt 3]),
  (4, [.iload 2, .iconst 10, .idiv, .iconst 1, .iconst 9, .invokestatic 108, .ifCond .eq 3]),
  (17, [.iload 1, .iload 2, .iconst 10, .irem, .invokestatic 110, .ifCond .ne 4]),
  (28, [.iconst (-1), .ireturn]),
  (30, [.aload 0, .getfield 576, .getfield 2, .iconst 9, .if_icmp .lt 6]),
  (42, [.iconst (-2), .ireturn]),
  (45, [.aload 0, .getfield 576, .getfield 2, .istore 3, .aload 0, .getfield 576, .getfield 4, .iload 3, .aaload, .iload 3, .iload 1, .iload 2, .iconst 10, .idiv, .iload 2, .iconst 10, .irem, .invokevirtual 43, .aload 0, .getfield 576, .iload 3, .iconst 1, .iadd, .putfield 2, .iload 3, .ireturn])]
def md_Desk_member : pm_M := ((⟨"QuestionDesk", "member", "(II)I"⟩, prog_1_method_3_code, 4, some .int), (2, 9), cd_Desk_member)
def cd_Desk_fits : List (Nat × List Instr) := [(0, [.iload 0, .iconst 0, .iconst 5, .invokestatic 108, .ifCond .eq 3]),
  (9, [.iload 1, .iconst 0, .getstatic 1, .iload 0, .iaload, .invokestatic 108, .ifCond .eq 3]),
  (22, [.iconst 1, .goto 4]),
  (26, [.iconst 0]),
  (27, [.ireturn])]
def md_Desk_fits : pm_M := ((⟨"QuestionDesk", "fits", "(II)Z"⟩, prog_1_method_50_code, 2, some .boolean), (2, 99), cd_Desk_fits)
def cd_Desk_bought : List (Nat × List Instr) := [(0, [.aload 0, .getfield 576, .iload 1, .invokevirtual 5, .astore 3, .aload 3, .ifnull 2]),
  (13, [.iload 2, .invokestatic 112, .ifCond .ne 3]),
  (20, [.iconst (-1), .ireturn]),
  (22, [.aload 3, .getfield 193, .iconst 4, .if_icmp .eq 5]),
  (30, [.iconst (-3), .ireturn]),
  (33, [.aload 3, .getfield 196, .istore 4, .aload 3, .iload 2, .putfield 196, .iload 4, .ireturn])]
def md_Desk_bought : pm_M := ((⟨"QuestionDesk", "bought", "(II)I"⟩, prog_1_method_4_code, 5, some .int), (2, 9), cd_Desk_bought)
def cd_Desk_isEnd : List (Nat × List Instr) := [(0, [.iload 0, .iconst 0, .iconst 6, .invokestatic 108, .ireturn])]
def md_Desk_isEnd : pm_M := ((⟨"QuestionDesk", "isEnd", "(I)Z"⟩, prog_1_method_49_code, 1, some .boolean), (1, 99), cd_Desk_isEnd)
def cd_Desk_becomes : List (Nat × List Instr) := [(0, [.aload 0, .getfield 576, .iload 1, .invokevirtual 5, .astore 3, .aload 3, .ifnull 3]),
  (13, [.iload 2, .ifCond .lt 3]),
  (17, [.iload 2, .iconst 10, .idiv, .iload 2, .iconst 10, .irem, .invokestatic 110, .ifCond .ne 4]),
  (31, [.iconst (-1), .ireturn]),
  (33, [.aload 3, .getfield 193, .istore 4, .aload 3, .iload 2, .iconst 10, .idiv, .putfield 193, .aload 3, .iload 2, .iconst 10, .irem, .putfield 195, .iload 4, .ireturn])]
def md_Desk_becomes : pm_M := ((⟨"QuestionDesk", "becomes", "(II)I"⟩, prog_1_method_5_code, 5, some .int), (2, 9), cd_Desk_becomes)
def cd_Desk_wish : List (Nat × List Instr) := [(0, [.aload 0, .iload 1, .iload 2, .iload 3, .iconst 0, .invokevirtual 115, .ireturn])]
def md_Desk_wish : pm_M := ((⟨"QuestionDesk", "wish", "(III)I"⟩, prog_1_method_6_code, 4, some .int), (3, 9), cd_Desk_wish)
def cd_Desk_changeWish : List (Nat × List Instr) := [(0, [.aload 0, .getfield 576, .iload 1, .invokevirtual 5, .astore 5, .aload 5, .ifnull 3]),
  (15, [.iload 2, .invokestatic 112, .ifCond .eq 3]),
  (22, [.iload 3, .iconst 0, .iconst 9, .invokestatic 108, .ifCond .ne 4]),
  (32, [.iconst (-1), .ireturn]),
  (34, [.iload 4, .ifCond .eq 6]),
  (39, [.aload 5, .getfield 199, .goto 7]),
  (47, [.aload 5, .getfield 198]),
  (52, [.astore 6, .aload 6, .iload 2, .iaload, .istore 7, .aload 6, .iload 2, .iload 3, .iastore, .iload 7, .ireturn])]
def md_Desk_changeWish : pm_M := ((⟨"QuestionDesk", "changeWish", "(IIIZ)I"⟩, prog_1_method_52_code, 8, some .int), (4, 9), cd_Desk_changeWish)
def cd_Desk_doubted : List (Nat × List Instr) := [(0, [.aload 0, .iload 1, .iload 2, .iload 3, .iconst 1, .invokevirtual 115, .ireturn])]
def md_Desk_doubted : pm_M := ((⟨"QuestionDesk", "doubted", "(III)I"⟩, prog_1_method_7_code, 4, some .int), (3, 9), cd_Desk_doubted)
def cd_Desk_sure : List (Nat × List Instr) := [(0, [.aload 0, .getfield 576, .iload 1, .invokevirtual 5, .astore 3, .aload 3, .ifnull 2]),
  (13, [.iload 2, .iconst 0, .iconst 100, .invokestatic 108, .ifCond .ne 3]),
  (23, [.iconst (-1), .ireturn]),
  (25, [.aload 3, .getfield 197, .istore 4, .aload 3, .iload 2, .putfield 197, .iload 4, .ireturn])]
def md_Desk_sure : pm_M := ((⟨"QuestionDesk", "sure", "(II)I"⟩, prog_1_method_8_code, 5, some .int), (2, 9), cd_Desk_sure)
def cd_Desk_about : List (Nat × List Instr) := [(0, [.aload 0, .getfield 576, .iload 1, .invokevirtual 5, .astore 3, .aload 3, .ifnonnull 2]),
  (13, [.iconst (-1), .ireturn]),
  (15, [.iload 2, .tableswitch 8 0 4 #[3, 4, 5, 6, 7]]),
  (52, [.aload 3, .getfield 193, .ireturn]),
  (57, [.aload 3, .getfield 194, .ireturn]),
  (62, [.aload 3, .getfield 195, .ireturn]),
  (67, [.aload 3, .invokevirtual 44, .ireturn]),
  (72, [.aload 3, .getfield 197, .ireturn]),
  (77, [.iconst (-1), .ireturn])]
def md_Desk_about : pm_M := ((⟨"QuestionDesk", "about", "(II)I"⟩, prog_1_method_9_code, 4, some .int), (2, 9), cd_Desk_about)
def cd_Desk_fault : List (Nat × List Instr) := [(0, [.aload 0, .iload 1, .invokevirtual 120, .astore 2, .aload 2, .iconst 3, .invokestatic 121, .istore 3, .aload 2, .ifnull 2]),
  (16, [.iload 3, .ifCond .eq 3]),
  (20, [.iload 3, .ireturn]),
  (22, [.aload 0, .getfield 580, .aload 2, .getfield 452, .aload 2, .getfield 450, .aload 0, .getfield 576, .getfield 0, .invokevirtual 88, .istore 4, .iload 4, .iconst (-1), .if_icmp .ne 5]),
  (52, [.iconst (-4), .goto 6]),
  (57, [.iload 4]),
  (59, [.ireturn])]
def md_Desk_fault : pm_M := ((⟨"QuestionDesk", "fault", "(I)I"⟩, prog_1_method_10_code, 5, some .int), (1, 9), cd_Desk_fault)
def cd_Desk_shelfAt : List (Nat × List Instr) := [(0, [.iload 1, .iconst 0, .iconst 7, .invokestatic 108, .ifCond .eq 2]),
  (10, [.aload 0, .getfield 579, .iload 1, .aaload, .goto 3]),
  (19, [.aconst_null]),
  (20, [.areturn])]
def md_Desk_shelfAt : pm_M := ((⟨"QuestionDesk", "shelfAt", "(I)LQuestionDesk$Shelf;"⟩, prog_1_method_53_code, 2, some (.object "QuestionDesk$Shelf")), (1, 9), cd_Desk_shelfAt)
def cd_Desk_refusalOf : List (Nat × List Instr) := [(0, [.aload 0, .ifnonnull 2]),
  (4, [.iconst (-1), .ireturn]),
  (6, [.aload 0, .getfield 448, .ifCond .ne 4]),
  (13, [.iconst (-11), .ireturn]),
  (16, [.aload 0, .iload 1, .invokevirtual 98, .ifCond .eq 6]),
  (24, [.iconst 0, .goto 7]),
  (28, [.iconst (-12)]),
  (30, [.ireturn])]
def md_Desk_refusalOf : pm_M := ((⟨"QuestionDesk", "refusalOf", "(LQuestionDesk$Shelf;I)I"⟩, prog_1_method_54_code, 2, some .int), (2, 99), cd_Desk_refusalOf)
def cd_Desk_tree : List (Nat × List Instr) := [(0, [.aload 0, .iload 1, .invokevirtual 120, .astore 2, .aload 2, .ifnonnull 2]),
  (10, [.iconst (-1), .ireturn]),
  (12, [.aload 0, .getfield 576, .getfield 3, .iconst 12, .if_icmp .lt 4]),
  (24, [.iconst (-2), .ireturn]),
  (27, [.aload 2, .iconst 3, .invokestatic 121, .istore 3, .iload 3, .ifCond .eq 6]),
  (37, [.iload 3, .ireturn]),
  (39, [.aload 0, .getfield 580, .aload 2, .getfield 452, .aload 2, .getfield 450, .aload 0, .getfield 576, .getfield 0, .invokevirtual 88, .istore 4, .iload 4, .iconst (-1), .if_icmp .eq 8]),
  (69, [.iconst (-100), .iload 4, .isub, .ireturn]),
  (75, [.aload 0, .getfield 576, .getfield 3, .istore 5, .aload 0, .getfield 576, .getfield 5, .iload 5, .aload 0, .getfield 580, .invokevirtual 96, .aastore, .aload 0, .getfield 576, .iload 5, .iconst 1, .iadd, .putfield 3, .iload 5, .ireturn])]
def md_Desk_tree : pm_M := ((⟨"QuestionDesk", "tree", "(I)I"⟩, prog_1_method_11_code, 6, some .int), (1, 9), cd_Desk_tree)
def cd_Desk_of : List (Nat × List Instr) := [(0, [.aload 0, .getfield 576, .iload 1, .invokevirtual 6, .astore 3, .aload 3, .ifnonnull 2]),
  (13, [.iconst (-1), .ireturn]),
  (15, [.iload 2, .tableswitch 6 0 2 #[3, 4, 5]]),
  (44, [.aload 3, .getfield 516, .ireturn]),
  (49, [.aload 3, .getfield 517, .ireturn]),
  (54, [.aload 0, .getfield 581, .aload 0, .getfield 576, .invokevirtual 12, .aload 0, .getfield 581, .aload 3, .invokevirtual 13, .pop, .aload 0, .getfield 581, .getfield 68, .iconst 0, .iaload, .ireturn]),
  (84, [.iconst (-1), .ireturn])]
def md_Desk_of : pm_M := ((⟨"QuestionDesk", "of", "(II)I"⟩, prog_1_method_12_code, 4, some .int), (2, 9), cd_Desk_of)
def cd_Desk_beat : List (Nat × List Instr) := [(0, [.iload 1, .invokestatic 112, .ifCond .eq 2]),
  (7, [.iload 2, .invokestatic 112, .ifCond .ne 3]),
  (14, [.iconst (-1000000001), .ireturn]),
  (17, [.aload 0, .getfield 581, .aload 0, .getfield 576, .invokevirtual 12, .aload 0, .getfield 581, .iload 1, .iload 2, .invokevirtual 21, .ireturn])]
def md_Desk_beat : pm_M := ((⟨"QuestionDesk", "beat", "(II)I"⟩, prog_1_method_13_code, 3, some .int), (2, 9), cd_Desk_beat)
def cd_Desk_stands : List (Nat × List Instr) := [(0, [.iload 1, .invokestatic 112, .ifCond .eq 2]),
  (7, [.iload 2, .invokestatic 112, .ifCond .ne 3]),
  (14, [.iconst (-1), .ireturn]),
  (16, [.aload 0, .getfield 581, .aload 0, .getfield 576, .invokevirtual 12, .aload 0, .getfield 581, .iload 1, .iload 2, .invokevirtual 20, .ireturn])]
def md_Desk_stands : pm_M := ((⟨"QuestionDesk", "stands", "(II)I"⟩, prog_1_method_14_code, 3, some .int), (2, 9), cd_Desk_stands)
def cd_Desk_run : List (Nat × List Instr) := [(0, [.aload 0, .getfield 576, .iload 1, .invokevirtual 6, .astore 2, .aload 2, .ifnonnull 2]),
  (13, [.iconst (-1), .ireturn]),
  (15, [.aload 0, .getfield 581, .aload 0, .getfield 576, .invokevirtual 12, .aload 0, .getfield 581, .aload 2, .invokevirtual 13, .ireturn])]
def md_Desk_run : pm_M := ((⟨"QuestionDesk", "run", "(I)I"⟩, prog_1_method_15_code, 3, some .int), (1, 9), cd_Desk_run)
def cd_Desk_ask : List (Nat × List Instr) := [(0, [.aload 0, .getfield 576, .iload 1, .invokevirtual 6, .astore 4, .aload 4, .ifnull 3]),
  (15, [.iload 2, .iconst 0, .aload 4, .getfield 516, .iconst 1, .isub, .invokestatic 108, .ifCond .eq 3]),
  (30, [.iload 3, .iconst 0, .iconst 2, .invokestatic 108, .ifCond .ne 4]),
  (39, [.iconst (-1), .ireturn]),
  (41, [.aload 0, .getfield 581, .aload 0, .getfield 576, .invokevirtual 12, .aload 0, .getfield 581, .aload 4, .invokevirtual 13, .pop, .aload 4, .iload 2, .invokevirtual 104, .istore 5, .iload 3, .ifCond .ne 6]),
  (74, [.aload 0, .getfield 581, .getfield 70, .iload 5, .iaload, .ireturn]),
  (85, [.aload 0, .getfield 581, .getfield 69, .iload 3, .iconst 1, .if_icmp .ne 8]),
  (97, [.iload 5, .iconst 1, .iadd, .goto 9]),
  (104, [.aload 4, .getfield 514, .iload 5, .iaload]),
  (112, [.iaload, .ireturn])]
def md_Desk_ask : pm_M := ((⟨"QuestionDesk", "ask", "(III)I"⟩, prog_1_method_16_code, 6, some .int), (3, 9), cd_Desk_ask)
def cd_Desk_wonBy : List (Nat × List Instr) := [(0, [.aload 0, .getfield 576, .iload 1, .invokevirtual 6, .astore 3, .aload 3, .ifnull 2]),
  (13, [.iload 2, .iconst 0, .aload 3, .getfield 516, .iconst 1, .isub, .invokestatic 108, .ifCond .ne 3]),
  (27, [.iconst (-1000000001), .ireturn]),
  (30, [.aload 0, .getfield 581, .aload 0, .getfield 576, .invokevirtual 12, .aload 0, .getfield 581, .aload 3, .invokevirtual 13, .pop, .aload 0, .getfield 581, .getfield 71, .aload 3, .iload 2, .invokevirtual 104, .iaload, .ireturn])]
def md_Desk_wonBy : pm_M := ((⟨"QuestionDesk", "wonBy", "(II)I"⟩, prog_1_method_17_code, 4, some .int), (2, 9), cd_Desk_wonBy)
def cd_Desk_why : List (Nat × List Instr) := [(0, [.aload 0, .getfield 576, .iload 1, .invokevirtual 6, .astore 4, .aload 4, .ifnull 3]),
  (15, [.iload 2, .iconst 0, .aload 4, .getfield 516, .iconst 1, .isub, .invokestatic 108, .ifCond .eq 3]),
  (30, [.aload 0, .getfield 576, .iload 3, .invokevirtual 5, .ifnonnull 4]),
  (41, [.iconst (-1000000001), .ireturn]),
  (44, [.aload 0, .getfield 581, .aload 0, .getfield 576, .invokevirtual 12, .aload 0, .getfield 581, .aload 4, .invokevirtual 13, .pop, .aload 4, .iload 2, .invokevirtual 104, .istore 5, .aload 0, .getfield 581, .iload 5, .iconst 1, .iadd, .aload 4, .getfield 514, .iload 5, .iaload, .iload 3, .invokevirtual 25, .ireturn])]
def md_Desk_why : pm_M := ((⟨"QuestionDesk", "why", "(III)I"⟩, prog_1_method_18_code, 6, some .int), (3, 9), cd_Desk_why)
def cd_Desk_ifAll : List (Nat × List Instr) := [(0, [.aload 0, .getfield 576, .iload 1, .invokevirtual 6, .astore 3, .aload 3, .ifnull 2]),
  (13, [.iload 2, .iconst 0, .iconst 1, .invokestatic 108, .ifCond .ne 3]),
  (22, [.iconst (-1), .ireturn]),
  (24, [.aload 0, .aload 3, .iload 2, .invokevirtual 131, .ireturn])]
def md_Desk_ifAll : pm_M := ((⟨"QuestionDesk", "ifAll", "(II)I"⟩, prog_1_method_19_code, 4, some .int), (2, 9), cd_Desk_ifAll)
def cd_Desk_comesIfAll : List (Nat × List Instr) := [(0, [.aload 0, .getfield 581, .aload 0, .getfield 576, .invokevirtual 12, .aload 0, .getfield 581, .iload 2, .invokevirtual 26, .aload 0, .getfield 581, .aload 1, .invokevirtual 13, .ireturn])]
def md_Desk_comesIfAll : pm_M := ((⟨"QuestionDesk", "comesIfAll", "(LQuestionDesk$Tree;I)I"⟩, prog_1_method_55_code, 3, some .int), (2, 9), cd_Desk_comesIfAll)
def cd_Desk_parts : List (Nat × List Instr) := [(0, [.aload 0, .getfield 576, .iload 1, .invokevirtual 6, .astore 2, .aload 2, .ifnonnull 2]),
  (13, [.iconst (-1), .ireturn]),
  (15, [.aload 0, .aload 2, .iconst 0, .invokevirtual 131, .pop, .aload 0, .getfield 581, .aload 2, .invokevirtual 27, .aload 0, .aload 2, .iconst 1, .invokevirtual 131, .pop, .aload 0, .getfield 581, .aload 2, .invokevirtual 28, .istore 3, .iload 3, .iconst (-4), .if_icmp .ne 4]),
  (52, [.iconst (-4), .goto 5]),
  (57, [.aload 2, .iload 3, .invokevirtual 105]),
  (62, [.ireturn])]
def md_Desk_parts : pm_M := ((⟨"QuestionDesk", "parts", "(I)I"⟩, prog_1_method_20_code, 4, some .int), (1, 9), cd_Desk_parts)
def cd_Desk_order : List (Nat × List Instr) := [(0, [.aload 0, .iload 1, .invokevirtual 120, .astore 3, .aload 3, .iconst 3, .invokestatic 121, .istore 4, .aload 3, .ifnull 2]),
  (17, [.iload 4, .ifCond .eq 3]),
  (22, [.iload 4, .ireturn]),
  (25, [.aload 0, .invokevirtual 134, .aload 0, .getfield 582, .aload 3, .getfield 452, .aload 3, .getfield 450, .invokevirtual 51, .ifCond .ne 5]),
  (47, [.iconst (-13), .ireturn]),
  (50, [.aload 0, .getfield 582, .aload 3, .getfield 450, .iload 2, .invokevirtual 52, .ireturn])]
def md_Desk_order : pm_M := ((⟨"QuestionDesk", "order", "(IZ)I"⟩, prog_1_method_21_code, 5, some .int), (2, 9), cd_Desk_order)
def cd_Desk_weighOrders : List (Nat × List Instr) := [(0, [.aload 0, .getfield 581, .aload 0, .getfield 576, .invokevirtual 12, .aload 0, .getfield 582, .aload 0, .getfield 581, .aload 0, .getfield 576, .getfield 0, .invokevirtual 50, .return_])]
def md_Desk_weighOrders : pm_M := ((⟨"QuestionDesk", "weighOrders", "()V"⟩, prog_1_method_56_code, 1, none), (0, 9), cd_Desk_weighOrders)
def cd_Desk_reach : List (Nat × List Instr) := [(0, [.aload 0, .invokevirtual 134, .aload 0, .getfield 582, .iload 1, .invokevirtual 55, .ireturn])]
def md_Desk_reach : pm_M := ((⟨"QuestionDesk", "reach", "(Z)I"⟩, prog_1_method_22_code, 2, some .int), (1, 9), cd_Desk_reach)
def cd_Desk_first : List (Nat × List Instr) := [(0, [.aload 0, .iload 1, .invokevirtual 137, .ifCond .ne 2]),
  (8, [.iconst (-1), .ireturn]),
  (10, [.aload 0, .invokevirtual 134, .aload 0, .getfield 582, .iload 1, .iload 2, .invokevirtual 61, .ireturn])]
def md_Desk_first : pm_M := ((⟨"QuestionDesk", "first", "(IZ)I"⟩, prog_1_method_23_code, 3, some .int), (2, 9), cd_Desk_first)
def cd_Desk_isThere : List (Nat × List Instr) := [(0, [.iload 1, .iconst 0, .aload 0, .getfield 576, .getfield 0, .iconst 1, .isub, .invokestatic 108, .ireturn])]
def md_Desk_isThere : pm_M := ((⟨"QuestionDesk", "isThere", "(I)Z"⟩, prog_1_method_51_code, 2, some .boolean), (1, 9), cd_Desk_isThere)
def cd_Desk_best : List (Nat × List Instr) := [(0, [.aload 0, .invokevirtual 134, .aload 0, .getfield 582, .invokevirtual 66, .ireturn])]
def md_Desk_best : pm_M := ((⟨"QuestionDesk", "best", "()I"⟩, prog_1_method_24_code, 1, some .int), (0, 9), cd_Desk_best)
def cd_Desk_top : List (Nat × List Instr) := [(0, [.iload 1, .iconst 0, .iconst 1, .invokestatic 108, .ifCond .ne 2]),
  (9, [.iconst (-1), .ireturn]),
  (11, [.aload 0, .invokevirtual 134, .iload 1, .ifCond .ne 4]),
  (19, [.aload 0, .getfield 582, .invokevirtual 59, .goto 5]),
  (29, [.aload 0, .getfield 582, .invokevirtual 67]),
  (36, [.ireturn])]
def md_Desk_top : pm_M := ((⟨"QuestionDesk", "top", "(I)I"⟩, prog_1_method_25_code, 2, some .int), (1, 9), cd_Desk_top)
def cd_Desk_killers : List (Nat × List Instr) := [(0, [.aload 0, .getfield 576, .iload 1, .invokevirtual 6, .astore 2, .aload 2, .ifnonnull 2]),
  (13, [.iconst (-1), .ireturn]),
  (15, [.aload 0, .getfield 581, .aload 0, .getfield 576, .invokevirtual 12, .aload 0, .getfield 581, .aload 2, .invokevirtual 13, .pop, .aload 0, .getfield 581, .aload 2, .getfield 512, .aload 0, .getfield 576, .getfield 0, .invokevirtual 29, .ireturn])]
def md_Desk_killers : pm_M := ((⟨"QuestionDesk", "killers", "(I)I"⟩, prog_1_method_26_code, 3, some .int), (1, 9), cd_Desk_killers)
def cd_Desk_shields : List (Nat × List Instr) := [(0, [.aload 0, .getfield 576, .iload 1, .invokevirtual 6, .astore 3, .aload 3, .ifnull 2]),
  (13, [.aload 0, .iload 2, .invokevirtual 137, .ifCond .ne 3]),
  (21, [.iconst (-1), .ireturn]),
  (23, [.aload 0, .getfield 581, .aload 0, .getfield 576, .invokevirtual 12, .aload 0, .getfield 581, .aload 3, .invokevirtual 13, .pop, .aload 0, .getfield 581, .aload 3, .getfield 512, .aload 0, .getfield 576, .getfield 0, .invokevirtual 29, .iload 2, .ishr, .iconst 1, .iand, .ifCond .ne 5]),
  (68, [.iconst (-3), .ireturn]),
  (71, [.aload 0, .getfield 581, .aload 3, .getfield 512, .iload 2, .aload 0, .getfield 576, .getfield 0, .invokevirtual 31, .ireturn])]
def md_Desk_shields : pm_M := ((⟨"QuestionDesk", "shields", "(II)I"⟩, prog_1_method_27_code, 4, some .int), (2, 9), cd_Desk_shields)
def cd_Desk_tell : List (Nat × List Instr) := [(0, [.aload 0, .getfield 576, .iload 1, .invokevirtual 6, .astore 3, .aload 3, .ifnull 2]),
  (13, [.iload 2, .invokestatic 112, .ifCond .ne 3]),
  (20, [.iconst (-1), .ireturn]),
  (22, [.aload 0, .getfield 583, .aload 0, .getfield 583, .invokevirtual 73, .iconst 1, .aload 3, .iload 2, .invokevirtual 74, .ireturn])]
def md_Desk_tell : pm_M := ((⟨"QuestionDesk", "tell", "(II)I"⟩, prog_1_method_28_code, 4, some .int), (2, 9), cd_Desk_tell)
def cd_Desk_falseVote : List (Nat × List Instr) := [(0, [.aload 0, .getfield 576, .iload 1, .invokevirtual 6, .astore 3, .aload 0, .iload 2, .invokevirtual 120, .astore 4, .aload 3, .ifnull 2]),
  (20, [.aload 4, .ifnonnull 3]),
  (25, [.iconst (-1), .ireturn]),
  (27, [.aload 4, .iconst 3, .invokestatic 121, .istore 5, .iload 5, .ifCond .eq 5]),
  (40, [.iload 5, .ireturn]),
  (43, [.aload 4, .invokevirtual 99, .ifCond .ne 7]),
  (51, [.iconst (-13), .ireturn]),
  (54, [.aload 0, .getfield 583, .aload 3, .aload 4, .getfield 452, .invokevirtual 76, .ireturn])]
def md_Desk_falseVote : pm_M := ((⟨"QuestionDesk", "falseVote", "(II)I"⟩, prog_1_method_29_code, 6, some .int), (2, 9), cd_Desk_falseVote)
def cd_Desk_chance : List (Nat × List Instr) := [(0, [.aload 0, .getfield 576, .iload 1, .invokevirtual 6, .astore 3, .aload 3, .ifnull 2]),
  (13, [.iload 2, .invokestatic 112, .ifCond .ne 3]),
  (20, [.goto_w (-1), .lreturn]),
  (24, [.aload 0, .getfield 583, .aload 3, .iload 2, .invokevirtual 77, .lreturn])]
def md_Desk_chance : pm_M := ((⟨"QuestionDesk", "chance", "(II)J"⟩, prog_1_method_30_code, 4, some .long), (2, 9), cd_Desk_chance)
def cd_Desk_boughtOff : List (Nat × List Instr) := [(0, [.aload 0, .getfield 576, .iload 1, .invokevirtual 6, .astore 3, .aload 3, .ifnull 2]),
  (13, [.iload 2, .invokestatic 112, .ifCond .ne 3]),
  (20, [.iconst (-1), .ireturn]),
  (22, [.aload 0, .getfield 583, .aload 0, .getfield 583, .invokevirtual 80, .iconst 4, .aload 3, .iload 2, .invokevirtual 74, .ireturn])]
def md_Desk_boughtOff : pm_M := ((⟨"QuestionDesk", "boughtOff", "(II)I"⟩, prog_1_method_31_code, 4, some .int), (2, 9), cd_Desk_boughtOff)
def cd_Desk_bestLie : List (Nat × List Instr) := [(0, [.aload 0, .getfield 576, .iload 1, .invokevirtual 6, .astore 4, .aload 4, .ifnull 3]),
  (15, [.aload 0, .getfield 576, .iload 2, .invokevirtual 5, .ifnull 3]),
  (26, [.iload 3, .iconst 0, .iconst 1, .invokestatic 108, .ifCond .ne 4]),
  (35, [.iconst (-1), .ireturn]),
  (37, [.aload 0, .getfield 583, .aload 4, .iload 2, .invokevirtual 81, .iload 3, .ifCond .ne 6]),
  (51, [.aload 0, .getfield 583, .aload 4, .invokevirtual 85, .goto 7]),
  (63, [.aload 0, .getfield 583, .getfield 327]),
  (70, [.ireturn])]
def md_Desk_bestLie : pm_M := ((⟨"QuestionDesk", "bestLie", "(III)I"⟩, prog_1_method_32_code, 5, some .int), (3, 9), cd_Desk_bestLie)
def cd_Desk_surely : List (Nat × List Instr) := [(0, [.iload 1, .invokestatic 112, .ifCond .eq 3]),
  (7, [.iload 2, .invokestatic 112, .ifCond .eq 3]),
  (14, [.iload 3, .iconst 0, .iconst 1, .invokestatic 108, .ifCond .ne 4]),
  (23, [.iconst (-1), .ireturn]),
  (25, [.aload 0, .getfield 583, .iload 1, .iload 2, .iload 3, .ifCond .ne 6]),
  (35, [.iconst 1, .goto 7]),
  (39, [.iconst 0]),
  (40, [.invokevirtual 86, .ifCond .eq 9]),
  (46, [.iconst 1, .goto 10]),
  (50, [.iconst 0]),
  (51, [.ireturn])]
def md_Desk_surely : pm_M := ((⟨"QuestionDesk", "surely", "(III)I"⟩, prog_1_method_33_code, 4, some .int), (3, 9), cd_Desk_surely)
def cd_Desk_ring : List (Nat × List Instr) := [(0, [.iload 1, .iconst 0, .iconst 6, .invokestatic 108, .ifCond .ne 2]),
  (10, [.iconst (-1), .ireturn]),
  (12, [.aload 0, .invokevirtual 134, .aload 0, .getfield 582, .iload 1, .invokevirtual 68, .ireturn])]
def md_Desk_ring : pm_M := ((⟨"QuestionDesk", "ring", "(I)I"⟩, prog_1_method_34_code, 2, some .int), (1, 9), cd_Desk_ring)
def cd_Desk_usual : List (Nat × List Instr) := [(0, [.aload 0, .iload 1, .invokevirtual 120, .astore 2, .aload 2, .iconst 3, .invokestatic 121, .istore 3, .aload 2, .ifnull 2]),
  (16, [.iload 3, .ifCond .eq 3]),
  (20, [.iload 3, .ireturn]),
  (22, [.aload 2, .getfield 450, .aload 0, .getfield 576, .getfield 0, .if_icmp .ge 5]),
  (36, [.iconst (-13), .ireturn]),
  (39, [.aload 0, .getfield 582, .aload 2, .getfield 452, .aload 0, .getfield 576, .getfield 0, .invokevirtual 70, .ireturn])]
def md_Desk_usual : pm_M := ((⟨"QuestionDesk", "usual", "(I)I"⟩, prog_1_method_35_code, 4, some .int), (1, 9), cd_Desk_usual)
def cd_Desk_breach : List (Nat × List Instr) := [(0, [.aload 0, .getfield 576, .iload 1, .invokevirtual 6, .astore 5, .aload 5, .ifnull 3]),
  (15, [.iload 2, .iconst 0, .iconst 2, .invokestatic 108, .ifCond .eq 3]),
  (24, [.iload 3, .iconst 1, .iconst 3, .invokestatic 108, .ifCond .ne 4]),
  (33, [.iconst (-1), .ireturn]),
  (35, [.aload 5, .getfield 517, .aload 5, .getfield 518, .ior, .iconst 8, .if_icmp .lt 6]),
  (51, [.iconst (-3), .ireturn]),
  (54, [.aload 0, .getfield 584, .iload 3, .iload 4, .ifCond .eq 8]),
  (64, [.iconst 1, .goto 9]),
  (68, [.iconst 0]),
  (69, [.aload 0, .getfield 576, .getfield 1, .invokevirtual 34, .aload 0, .getfield 584, .aload 5, .invokevirtual 35, .aload 0, .getfield 584, .iload 2, .invokevirtual 37, .ireturn])]
def md_Desk_breach : pm_M := ((⟨"QuestionDesk", "breach", "(IIIZ)I"⟩, prog_1_method_36_code, 6, some .int), (4, 9), cd_Desk_breach)
def cd_Desk_finds : List (Nat × List Instr) := [(0, [.aload 0, .getfield 576, .iload 1, .invokevirtual 6, .astore 3, .aload 3, .ifnull 2]),
  (13, [.iload 2, .invokestatic 112, .ifCond .ne 3]),
  (20, [.iconst (-1), .ireturn]),
  (22, [.aload 0, .aload 3, .iconst 0, .invokevirtual 131, .iload 2, .if_icmp .ne 5]),
  (32, [.iconst 1, .goto 6]),
  (36, [.iconst 0]),
  (37, [.istore 4, .aload 0, .aload 3, .iconst 1, .invokevirtual 131, .iload 2, .if_icmp .ne 8]),
  (49, [.iconst 2, .goto 9]),
  (53, [.iconst 0]),
  (54, [.istore 5, .iload 4, .iload 5, .iadd, .ireturn])]
def md_Desk_finds : pm_M := ((⟨"QuestionDesk", "finds", "(II)I"⟩, prog_1_method_37_code, 6, some .int), (2, 9), cd_Desk_finds)
def cd_Desk_image : List (Nat × List Instr) := [(0, [.aload 0, .getfield 577, .aload 0, .getfield 576, .invokevirtual 7, .aload 0, .iconst 1, .putfield 578, .aload 0, .getfield 576, .getfield 2, .ireturn])]
def md_Desk_image : pm_M := ((⟨"QuestionDesk", "image", "()I"⟩, prog_1_method_38_code, 1, some .int), (0, 9), cd_Desk_image)
def cd_Desk_restore : List (Nat × List Instr) := [(0, [.aload 0, .getfield 578, .ifCond .ne 2]),
  (7, [.iconst (-3), .ireturn]),
  (10, [.aload 0, .getfield 576, .aload 0, .getfield 577, .invokevirtual 7, .aload 0, .getfield 576, .getfield 2, .ireturn])]
def md_Desk_restore : pm_M := ((⟨"QuestionDesk", "restore", "()I"⟩, prog_1_method_39_code, 1, some .int), (0, 9), cd_Desk_restore)
def cd_Desk_count : List (Nat × List Instr) := [(0, [.iload 1, .tableswitch 8 0 6 #[1, 2, 3, 4, 5, 6, 7]]),
  (44, [.aload 0, .getfield 576, .getfield 0, .ireturn]),
  (52, [.aload 0, .getfield 576, .getfield 1, .ireturn]),
  (60, [.aload 0, .getfield 576, .getfield 2, .ireturn]),
  (68, [.aload 0, .getfield 576, .invokevirtual 8, .ireturn]),
  (76, [.aload 0, .getfield 576, .getfield 3, .ireturn]),
  (84, [.aload 0, .getfield 576, .invokevirtual 9, .ireturn]),
  (92, [.aload 0, .getfield 576, .invokevirtual 10, .ireturn]),
  (100, [.iconst (-1), .ireturn])]
def md_Desk_count : pm_M := ((⟨"QuestionDesk", "count", "(I)I"⟩, prog_1_method_40_code, 2, some .int), (1, 9), cd_Desk_count)
def cd_Desk_keep : List (Nat × List Instr) := [(0, [.aload 0, .iload 1, .invokevirtual 120, .astore 4, .aload 4, .ifnull 2]),
  (12, [.iload 2, .iconst 0, .iconst 1, .invokestatic 108, .ifCond .ne 3]),
  (21, [.iconst (-1), .ireturn]),
  (23, [.iload 2, .ifCond .ne 5]),
  (27, [.aload 4, .iconst 0, .putfield 448, .iconst 0, .ireturn]),
  (35, [.aload 0, .getfield 576, .iload 3, .invokevirtual 5, .astore 5, .aload 5, .ifnonnull 7]),
  (50, [.iconst (-1), .ireturn]),
  (52, [.aload 4, .getfield 451, .aload 5, .invokevirtual 45, .aload 4, .iconst 1, .putfield 448, .iconst 0, .ireturn])]
def md_Desk_keep : pm_M := ((⟨"QuestionDesk", "keep", "(III)I"⟩, prog_1_method_41_code, 6, some .int), (3, 9), cd_Desk_keep)
def cd_Desk_row : List (Nat × List Instr) := [(0, [.aload 0, .iload 1, .invokevirtual 120, .astore 4, .aload 4, .ifnull 3]),
  (12, [.iload 2, .iconst 0, .iconst 2, .invokestatic 108, .ifCond .eq 3]),
  (21, [.iload 3, .iconst 120, .if_icmp .le 4]),
  (27, [.iconst (-1), .ireturn]),
  (29, [.iload 3, .ifCond .ge 6]),
  (33, [.iconst (-14), .ireturn]),
  (36, [.aload 4, .iload 2, .iload 3, .invokevirtual 100, .iconst 0, .ireturn])]
def md_Desk_row : pm_M := ((⟨"QuestionDesk", "row", "(III)I"⟩, prog_1_method_42_code, 5, some .int), (3, 9), cd_Desk_row)
def cd_Desk_put : List (Nat × List Instr) := [(0, [.aload 0, .iload 1, .invokevirtual 120, .astore 4, .aload 4, .iconst 2, .invokestatic 121, .istore 5, .aload 4, .ifnull 2]),
  (20, [.iload 5, .ifCond .eq 3]),
  (25, [.iload 5, .ireturn]),
  (28, [.iload 2, .iconst 0, .aload 4, .getfield 450, .iconst 1, .isub, .invokestatic 108, .ifCond .ne 5]),
  (43, [.iconst (-13), .ireturn]),
  (46, [.aload 4, .getfield 452, .iload 2, .aload 4, .iload 3, .invokevirtual 101, .iastore, .iconst 0, .ireturn])]
def md_Desk_put : pm_M := ((⟨"QuestionDesk", "put", "(III)I"⟩, prog_1_method_43_code, 6, some .int), (3, 9), cd_Desk_put)
def cd_Desk_copy : List (Nat × List Instr) := [(0, [.aload 0, .iload 1, .invokevirtual 120, .astore 6, .aload 0, .iload 3, .invokevirtual 120, .astore 7, .aload 6, .ifnull 2]),
  (19, [.aload 7, .ifnonnull 3]),
  (24, [.iconst (-1), .ireturn]),
  (26, [.aload 6, .getfield 448, .ifCond .eq 5]),
  (34, [.aload 7, .getfield 448, .ifCond .ne 6]),
  (42, [.iconst (-11), .ireturn]),
  (45, [.aload 6, .getfield 448, .iconst 2, .if_icmp .ne 9]),
  (54, [.aload 7, .getfield 448, .iconst 2, .if_icmp .ne 9]),
  (63, [.aload 6, .getfield 449, .aload 7, .getfield 449, .if_icmp .eq 10]),
  (76, [.iconst (-12), .ireturn]),
  (79, [.aload 6, .iload 2, .iload 5, .invokevirtual 102, .ifCond .eq 12]),
  (90, [.aload 7, .iload 4, .iload 5, .invokevirtual 102, .ifCond .ne 13]),
  (102, [.iconst (-13), .ireturn]),
  (105, [.aload 6, .getfield 452, .iload 2, .aload 7, .getfield 452, .iload 4, .iload 5, .swap, .iload 5, .ireturn])]
def md_Desk_copy : pm_M := ((⟨"QuestionDesk", "copy", "(IIIII)I"⟩, prog_1_method_45_code, 8, some .int), (5, 9), cd_Desk_copy)
def cd_Desk_heft : List (Nat × List Instr) := [(0, [.aload 0, .iload 1, .invokevirtual 120, .astore 2, .aload 2, .iconst 1, .invokestatic 121, .istore 3, .aload 2, .ifnull 2]),
  (16, [.iload 3, .ifCond .eq 3]),
  (20, [.iload 3, .ireturn]),
  (22, [.aload 2, .getfield 451, .invokevirtual 44, .ireturn])]
def md_Desk_heft : pm_M := ((⟨"QuestionDesk", "heft", "(I)I"⟩, prog_1_method_46_code, 4, some .int), (1, 9), cd_Desk_heft)
def cd_Desk_toss : List (Nat × List Instr) := []
def md_Desk_toss : pm_M := ((⟨"QuestionDesk", "toss", "(I)I"⟩, prog_1_method_47_code, 6, some .int), (1, 9), cd_Desk_toss)
def cd_Model_init : List (Nat × List Instr) := [(0, [.aload 0, .monitorenter, .aload 0, .iconst 200, .newarray .int, .putfield 641, .aload 0, .iconst 200, .newarray .int, .putfield 642, .aload 0, .iconst 12, .newarray .int, .putfield 644, .aload 0, .iconst 12, .newarray .int, .putfield 645, .aload 0, .iconst 1200, .newarray .int, .putfield 646, .aload 0, .iconst 1200, .newarray .int, .putfield 647, .aload 0, .iconst 1200, .newarray .int, .putfield 648, .aload 0, .iconst 1200, .newarray .int, .putfield 649, .aload 0, .iconst 1200, .newarray .int, .putfield 650, .aload 0, .iconst 110, .newarray .int, .putfield 657, .aload 0, .iconst 110, .newarray .int, .putfield 658, .aload 0, .iconst 110, .newarray .int, .putfield 659, .aload 0, .iconst 110, .newarray .int, .putfield 660, .aload 0, .iconst 110, .newarray .int, .putfield 661, .aload 0, .iconst 6, .newarray .int, .putfield 662, .aload 0, .iconst 6, .newarray .int, .putfield 663, .aload 0, .iconst 6, .newarray .int, .putfield 664, .aload 0, .iconst 6, .newarray .int, .putfield 665, .aload 0, .iconst (-1), .putfield 668, .aload 0, .iconst (-1), .putfield 671, .aload 0, .iconst 7, .newarray .int, .putfield 672, .aload 0, .iconst 3, .newarray .int, .putfield 676, .aload 0, .iconst 110, .newarray .int, .putfield 677, .aload 0, .iconst 110, .newarray .int, .putfield 678, .aload 0, .iconst 110, .newarray .int, .putfield 679, .aload 0, .iconst 660, .newarray .int, .putfield 680, .aload 0, .iconst 110, .newarray .int, .putfield 681, .aload 0, .iconst 110, .newarray .int, .putfield 682, .aload 0, .iconst 110, .newarray .int, .putfield 683, .aload 0, .iconst 7, .newarray .int, .putfield 684, .aload 0, .iconst 56, .newarray .int, .putfield 686, .aload 0, .iconst 6, .newarray .int, .putfield 687, .aload 0, .iconst 7, .newarray .int, .putfield 688, .aload 0, .iconst 7, .newarray .int, .putfield 689, .aload 0, .iconst 8, .newarray .int, .putfield 690, .aload 0, .iconst 8, .newarray .int, .putfield 691, .aload 0, .iconst 8, .newarray .int, .putfield 692, .aload 0, .iconst 8, .newarray .int, .putfield 693, .aload 0, .iconst 8, .newarray .int, .putfield 694, .aload 0, .iconst 960, .newarray .long, .putfield 695, .aload 0, .iconst 120, .newarray .long, .putfield 696, .aload 0, .getfield 641, .iconst 0, .iconst 3, .iastore, .return_])]
def md_Model_init : pm_M := ((⟨"QuestionDeskModel", "<init>", "()V"⟩, prog_12_method_1_code, 1, none), (0, 10), cd_Model_init)
def cd_Model_thrown : List (Nat × List Instr) := [(0, [.aload 0, .getfield 640, .ireturn])]
def md_Model_thrown : pm_M := ((⟨"QuestionDeskModel", "thrown", "()I"⟩, prog_12_method_2_code, 1, some .int), (0, 10), cd_Model_thrown)
def cd_Model_set : List (Nat × List Instr) := [(0, [.aload 0, .iconst 0, .putfield 640, .iload 1, .iconst 0, .iconst 1, .invokestatic 164, .ifCond .eq 8]),
  (14, [.iload 2, .iload 1, .ifCond .ne 3]),
  (19, [.iconst 1, .goto 4]),
  (23, [.iconst 0]),
  (24, [.iload 1, .ifCond .ne 6]),
  (28, [.iconst 7, .goto 7]),
  (33, [.iconst 1]),
  (34, [.invokestatic 164, .ifCond .ne 9]),
  (40, [.iconst (-1), .ireturn]),
  (42, [.aload 0, .getfield 641, .iload 1, .iaload, .istore 3, .aload 0, .getfield 641, .iload 1, .iload 2, .iastore, .iload 3, .ireturn])]
def md_Model_set : pm_M := ((⟨"QuestionDeskModel", "set", "(II)I"⟩, prog_12_method_8_code, 4, some .int), (2, 10), cd_Model_set)
def cd_Model_in : List (Nat × List Instr) := [(0, [.iload 0, .iload 1, .if_icmp .lt 3]),
  (5, [.iload 0, .iload 2, .if_icmp .gt 3]),
  (10, [.iconst 1, .goto 4]),
  (14, [.iconst 0]),
  (15, [.ireturn])]
def md_Model_in : pm_M := ((⟨"QuestionDeskModel", "in", "(III)Z"⟩, prog_12_method_3_code, 3, some .boolean), (3, 99), cd_Model_in)
def cd_Model_member : List (Nat × List Instr) := [(0, [.aload 0, .iconst 0, .putfield 640, .iload 1, .iconst 0, .iconst 5, .invokestatic 164, .ifCond .eq 4]),
  (14, [.iload 2, .ifCond .lt 4]),
  (18, [.iload 2, .iconst 10, .idiv, .iconst 1, .iconst 9, .invokestatic 164, .ifCond .eq 4]),
  (31, [.iload 1, .iload 2, .iconst 10, .irem, .invokestatic 166, .ifCond .ne 5]),
  (42, [.iconst (-1), .ireturn]),
  (44, [.aload 0, .getfield 641, .iconst 2, .iaload, .iconst 9, .if_icmp .ne 7]),
  (55, [.iconst (-2), .ireturn]),
  (58, [.aload 0, .getfield 641, .iconst 2, .iaload, .istore 3, .aload 0, .getfield 641, .iconst 10, .iload 3, .iadd, .iload 1, .iastore, .aload 0, .getfield 641, .iconst 20, .iload 3, .iadd, .iload 2, .iconst 10, .idiv, .iastore, .aload 0, .getfield 641, .iconst 30, .iload 3, .iadd, .iload 2, .iconst 10, .irem, .iastore, .aload 0, .getfield 641, .iconst 40, .iload 3, .iadd, .iconst 0, .iastore, .aload 0, .getfield 641, .iconst 50, .iload 3, .iadd, .iconst 0, .iastore, .iconst 0, .istore 4]),
  (124, [.iload 4, .iconst 7, .if_icmp .ge 10]),
  (131, [.aload 0, .getfield 641, .iconst 60, .iconst 7, .iload 3, .imul, .iadd, .iload 4, .iadd, .iconst 5, .iastore, .aload 0, .getfield 641, .iconst 130, .iconst 7, .iload 3, .imul, .iadd, .iload 4, .iadd, .iconst 5, .iastore, .iinc 4 1, .goto 8]),
  (170, [.aload 0, .getfield 641, .iconst 2, .dup2, .iaload, .iconst 1, .iadd, .iastore, .iload 3, .ireturn])]
def md_Model_member : pm_M := ((⟨"QuestionDeskModel", "member", "(II)I"⟩, prog_12_method_10_code, 5, some .int), (2, 10), cd_Model_member)
def cd_Model_isNumber : List (Nat × List Instr) := [(0, [.iload 1, .iconst 0, .iload 0, .iconst 2, .if_icmp .ne 2]),
  (7, [.iconst 5, .goto 6]),
  (11, [.iload 0, .iconst 3, .if_icmp .eq 4]),
  (16, [.iload 0, .iconst 4, .if_icmp .ne 5]),
  (21, [.iconst 2, .goto 6]),
  (25, [.iconst 0]),
  (26, [.invokestatic 164, .ireturn])]
def md_Model_isNumber : pm_M := ((⟨"QuestionDeskModel", "isNumber", "(II)Z"⟩, prog_12_method_9_code, 2, some .boolean), (2, 99), cd_Model_isNumber)
def cd_Model_bought : List (Nat × List Instr) := [(0, [.aload 0, .iconst 0, .putfield 640, .aload 0, .iload 1, .invokevirtual 168, .ifCond .eq 2]),
  (13, [.iload 2, .invokestatic 169, .ifCond .ne 3]),
  (20, [.iconst (-1), .ireturn]),
  (22, [.aload 0, .getfield 641, .iconst 10, .iload 1, .iadd, .iaload, .iconst 4, .if_icmp .eq 5]),
  (35, [.iconst (-3), .ireturn]),
  (38, [.aload 0, .getfield 641, .iconst 40, .iload 1, .iadd, .iaload, .istore 3, .aload 0, .getfield 641, .iconst 40, .iload 1, .iadd, .iload 2, .iastore, .iload 3, .ireturn])]
def md_Model_bought : pm_M := ((⟨"QuestionDeskModel", "bought", "(II)I"⟩, prog_12_method_11_code, 4, some .int), (2, 10), cd_Model_bought)
def cd_Model_isMember : List (Nat × List Instr) := [(0, [.iload 1, .iconst 0, .aload 0, .getfield 641, .iconst 2, .iaload, .iconst 1, .isub, .invokestatic 164, .ireturn])]
def md_Model_isMember : pm_M := ((⟨"QuestionDeskModel", "isMember", "(I)Z"⟩, prog_12_method_6_code, 2, some .boolean), (1, 10), cd_Model_isMember)
def cd_Model_isEnd : List (Nat × List Instr) := [(0, [.iload 0, .iconst 0, .iconst 6, .invokestatic 164, .ireturn])]
def md_Model_isEnd : pm_M := ((⟨"QuestionDeskModel", "isEnd", "(I)Z"⟩, prog_12_method_4_code, 1, some .boolean), (1, 99), cd_Model_isEnd)
def cd_Model_becomes : List (Nat × List Instr) := [(0, [.aload 0, .iconst 0, .putfield 640, .aload 0, .iload 1, .invokevirtual 168, .ifCond .eq 4]),
  (13, [.iload 2, .ifCond .lt 4]),
  (17, [.iload 2, .iconst 10, .idiv, .iconst 0, .iconst 5, .invokestatic 164, .ifCond .eq 4]),
  (29, [.iload 2, .iconst 10, .idiv, .iload 2, .iconst 10, .irem, .invokestatic 166, .ifCond .ne 5]),
  (43, [.iconst (-1), .ireturn]),
  (45, [.aload 0, .getfield 641, .iconst 10, .iload 1, .iadd, .iaload, .istore 3, .aload 0, .getfield 641, .iconst 10, .iload 1, .iadd, .iload 2, .iconst 10, .idiv, .iastore, .aload 0, .getfield 641, .iconst 30, .iload 1, .iadd, .iload 2, .iconst 10, .irem, .iastore, .iload 3, .ireturn])]
def md_Model_becomes : pm_M := ((⟨"QuestionDeskModel", "becomes", "(II)I"⟩, prog_12_method_12_code, 4, some .int), (2, 10), cd_Model_becomes)
def cd_Model_wish : List (Nat × List Instr) := [(0, [.aload 0, .iconst 0, .putfield 640, .aload 0, .iload 1, .invokevirtual 168, .ifCond .eq 4]),
  (13, [.iload 2, .invokestatic 169, .ifCond .eq 4]),
  (20, [.iload 3, .iconst 0, .iconst 9, .invokestatic 164, .ifCond .eq 4]),
  (30, [.aload 0, .iconst 60, .iconst 7, .iload 1, .imul, .iadd, .iload 2, .iadd, .iload 3, .invokevirtual 172, .goto 5]),
  (47, [.iconst (-1)]),
  (48, [.ireturn])]
def md_Model_wish : pm_M := ((⟨"QuestionDeskModel", "wish", "(III)I"⟩, prog_12_method_14_code, 4, some .int), (3, 10), cd_Model_wish)
def cd_Model_change : List (Nat × List Instr) := [(0, [.aload 0, .getfield 641, .iload 1, .iaload, .istore 3, .aload 0, .getfield 641, .iload 1, .iload 2, .iastore, .iload 3, .ireturn])]
def md_Model_change : pm_M := ((⟨"QuestionDeskModel", "change", "(II)I"⟩, prog_12_method_13_code, 4, some .int), (2, 10), cd_Model_change)
def cd_Model_doubted : List (Nat × List Instr) := [(0, [.aload 0, .iconst 0, .putfield 640, .aload 0, .iload 1, .invokevirtual 168, .ifCond .eq 4]),
  (13, [.iload 2, .invokestatic 169, .ifCond .eq 4]),
  (20, [.iload 3, .iconst 0, .iconst 9, .invokestatic 164, .ifCond .eq 4]),
  (30, [.aload 0, .iconst 130, .iconst 7, .iload 1, .imul, .iadd, .iload 2, .iadd, .iload 3, .invokevirtual 172, .goto 5]),
  (48, [.iconst (-1)]),
  (49, [.ireturn])]
def md_Model_doubted : pm_M := ((⟨"QuestionDeskModel", "doubted", "(III)I"⟩, prog_12_method_15_code, 4, some .int), (3, 10), cd_Model_doubted)
def cd_Model_sure : List (Nat × List Instr) := [(0, [.aload 0, .iconst 0, .putfield 640, .aload 0, .iload 1, .invokevirtual 168, .ifCond .eq 3]),
  (13, [.iload 2, .iconst 0, .iconst 100, .invokestatic 164, .ifCond .eq 3]),
  (23, [.aload 0, .iconst 50, .iload 1, .iadd, .iload 2, .invokevirtual 172, .goto 4]),
  (35, [.iconst (-1)]),
  (36, [.ireturn])]
def md_Model_sure : pm_M := ((⟨"QuestionDeskModel", "sure", "(II)I"⟩, prog_12_method_16_code, 3, some .int), (2, 10), cd_Model_sure)
def cd_Model_about : List (Nat × List Instr) := [(0, [.aload 0, .iconst 0, .putfield 640, .aload 0, .iload 1, .invokevirtual 168, .ifCond .eq 2]),
  (13, [.iload 2, .iconst 0, .iconst 4, .invokestatic 164, .ifCond .ne 3]),
  (22, [.iconst (-1), .ireturn]),
  (24, [.iload 2, .ifCond .ne 5]),
  (28, [.aload 0, .getfield 641, .iconst 10, .iload 1, .iadd, .iaload, .goto 12]),
  (40, [.iload 2, .iconst 1, .if_icmp .ne 7]),
  (45, [.aload 0, .getfield 641, .iconst 20, .iload 1, .iadd, .iaload, .goto 12]),
  (57, [.iload 2, .iconst 2, .if_icmp .ne 9]),
  (62, [.aload 0, .getfield 641, .iconst 30, .iload 1, .iadd, .iaload, .goto 12]),
  (74, [.iload 2, .iconst 3, .if_icmp .ne 11]),
  (79, [.aload 0, .iload 1, .invokevirtual 176, .goto 12]),
  (87, [.aload 0, .getfield 641, .iconst 50, .iload 1, .iadd, .iaload]),
  (96, [.ireturn])]
def md_Model_about : pm_M := ((⟨"QuestionDeskModel", "about", "(II)I"⟩, prog_12_method_18_code, 3, some .int), (2, 10), cd_Model_about)
def cd_Model_heftOf : List (Nat × List Instr) := [(0, [.aload 0, .getfield 641, .iconst 20, .iload 1, .iadd, .iaload, .istore 2, .aload 0, .getfield 641, .iconst 10, .iload 1, .iadd, .iaload, .tableswitch 6 0 4 #[1, 2, 3, 4, 5]]),
  (52, [.iload 2, .ireturn]),
  (54, [.iload 2, .iconst 1, .iadd, .ireturn]),
  (58, [.iload 2, .iconst 1, .iadd, .aload 0, .getfield 641, .iconst 30, .iload 1, .iadd, .iaload, .iadd, .ireturn]),
  (72, [.iconst 2, .iload 2, .imul, .ireturn]),
  (76, [.iconst 2, .iload 2, .imul, .iconst 1, .isub, .ireturn]),
  (82, [.iload 2, .iconst 2, .idiv, .ireturn])]
def md_Model_heftOf : pm_M := ((⟨"QuestionDeskModel", "heftOf", "(I)I"⟩, prog_12_method_17_code, 3, some .int), (1, 10), cd_Model_heftOf)
def cd_Model_fault : List (Nat × List Instr) := [(0, [.aload 0, .iconst 0, .putfield 640, .aload 0, .iload 1, .invokevirtual 178, .istore 2, .iload 2, .ifCond .ge 2]),
  (15, [.iload 2, .ireturn]),
  (17, [.aload 0, .iload 1, .invokevirtual 179, .istore 3, .iload 3, .ifCond .ge 4]),
  (27, [.iconst (-4), .goto 5]),
  (32, [.iload 3]),
  (33, [.ireturn])]
def md_Model_fault : pm_M := ((⟨"QuestionDeskModel", "fault", "(I)I"⟩, prog_12_method_27_code, 4, some .int), (1, 10), cd_Model_fault)
def cd_Model_lacks : List (Nat × List Instr) := [(0, [.iload 1, .iconst 0, .iconst 7, .invokestatic 164, .ifCond .ne 2]),
  (10, [.iconst (-1), .ireturn]),
  (12, [.aload 0, .getfield 690, .iload 1, .iaload, .ifCond .ne 4]),
  (21, [.iconst (-11), .goto 8]),
  (26, [.aload 0, .getfield 690, .iload 1, .iaload, .iconst 2, .if_icmp .ne 6]),
  (36, [.aload 0, .getfield 693, .iload 1, .iaload, .ifCond .eq 7]),
  (45, [.iconst (-12), .goto 8]),
  (50, [.iconst 0]),
  (51, [.ireturn])]
def md_Model_lacks : pm_M := ((⟨"QuestionDeskModel", "lacks", "(I)I"⟩, prog_12_method_26_code, 2, some .int), (1, 10), cd_Model_lacks)
def cd_Model_faultOf : List (Nat × List Instr) := [(0, [.aload 0, .iconst 120, .iload 1, .imul, .putfield 651, .aload 0, .aload 0, .getfield 694, .iload 1, .iaload, .putfield 652, .aload 0, .iconst 0, .putfield 653, .aload 0, .iconst 0, .putfield 654, .aload 0, .iconst 0, .putfield 667, .aload 0, .iconst 0, .putfield 655, .aload 0, .iconst 0, .putfield 656, .aload 0, .iconst 0, .putfield 666]),
  (48, [.aload 0, .getfield 654, .ifCond .ne 15]),
  (55, [.aload 0, .getfield 667, .ifCond .ne 15]),
  (62, [.aload 0, .invokevirtual 180, .istore 2, .iload 2, .iconst 40, .if_icmp .eq 5]),
  (73, [.iload 2, .iconst 123, .if_icmp .ne 9]),
  (79, [.aload 0, .iload 2, .iconst 40, .if_icmp .ne 7]),
  (86, [.iconst 1, .goto 8]),
  (90, [.iconst 2]),
  (91, [.invokevirtual 181, .goto 14]),
  (97, [.aload 0, .invokevirtual 182, .istore 3, .aload 0, .getfield 654, .ifCond .ne 14]),
  (109, [.aload 0, .aload 0, .getfield 666, .ifCond .ne 12]),
  (117, [.iconst 1, .goto 13]),
  (121, [.iconst 0]),
  (122, [.putfield 667, .aload 0, .aload 0, .iconst 0, .iconst (-1), .iconst (-1), .iload 3, .iconst 0, .invokevirtual 184, .invokevirtual 185]),
  (138, [.goto 1]),
  (141, [.aload 0, .aload 0, .getfield 654, .ifCond .ne 17]),
  (149, [.aload 0, .getfield 653, .aload 0, .getfield 652, .if_icmp .ge 18]),
  (160, [.iconst 1, .goto 19]),
  (164, [.iconst 0]),
  (165, [.putfield 654, .aload 0, .getfield 654, .ifCond .eq 21]),
  (175, [.aload 0, .getfield 653, .goto 22]),
  (182, [.iconst (-1)]),
  (183, [.ireturn])]
def md_Model_faultOf : pm_M := ((⟨"QuestionDeskModel", "faultOf", "(I)I"⟩, prog_12_method_25_code, 4, some .int), (1, 10), cd_Model_faultOf)
def cd_Model_here : List (Nat × List Instr) := [(0, [.aload 0, .getfield 653, .aload 0, .getfield 652, .if_icmp .lt 2]),
  (11, [.iconst (-1), .goto 3]),
  (15, [.aload 0, .getfield 695, .aload 0, .getfield 651, .aload 0, .getfield 653, .iadd, .laload, .l2i, .iconst 255, .iand]),
  (34, [.ireturn])]
def md_Model_here : pm_M := ((⟨"QuestionDeskModel", "here", "()I"⟩, prog_12_method_19_code, 1, some .int), (0, 10), cd_Model_here)
def cd_Model_begin : List (Nat × List Instr) := [(0, [.aload 0, .aload 0, .getfield 666, .iconst 6, .if_icmp .ne 2]),
  (10, [.iconst 1, .goto 3]),
  (14, [.iconst 0]),
  (15, [.putfield 654, .aload 0, .getfield 654, .ifCond .eq 5]),
  (25, [.return_]),
  (26, [.aload 0, .dup, .getfield 653, .iconst 1, .iadd, .putfield 653, .aload 0, .getfield 662, .aload 0, .getfield 666, .iload 1, .iastore, .aload 0, .getfield 663, .aload 0, .getfield 666, .iconst (-1), .iastore, .aload 0, .getfield 664, .aload 0, .getfield 666, .iload 1, .iconst 1, .if_icmp .ne 7]),
  (69, [.aload 0, .getfield 656, .goto 8]),
  (76, [.iconst 0]),
  (77, [.iastore, .aload 0, .dup, .getfield 656, .iload 1, .iconst 1, .if_icmp .ne 10]),
  (88, [.iconst 1, .goto 11]),
  (92, [.iconst 0]),
  (93, [.iadd, .putfield 656, .iload 1, .iconst 2, .if_icmp .ne 19]),
  (102, [.aload 0, .getfield 664, .aload 0, .getfield 666, .aload 0, .invokevirtual 182, .iastore, .aload 0, .getfield 654, .ifCond .ne 19]),
  (122, [.aload 0, .iconst 62, .invokevirtual 183, .ifCond .eq 19]),
  (131, [.aload 0, .getfield 665, .aload 0, .getfield 666, .aload 0, .invokevirtual 182, .iastore, .aload 0, .aload 0, .getfield 654, .ifCond .ne 16]),
  (152, [.aload 0, .iconst 58, .invokevirtual 183, .ifCond .ne 17]),
  (161, [.iconst 1, .goto 18]),
  (165, [.iconst 0]),
  (166, [.putfield 654]),
  (169, [.aload 0, .dup, .getfield 666, .iconst 1, .iadd, .putfield 666, .return_])]
def md_Model_begin : pm_M := ((⟨"QuestionDeskModel", "begin", "(I)V"⟩, prog_12_method_23_code, 2, none), (1, 10), cd_Model_begin)
def cd_Model_readEnd : List (Nat × List Instr) := [(0, [.aload 0, .invokevirtual 180, .istore 1, .aload 0, .iload 1, .iconst 48, .iconst 48, .aload 0, .getfield 641, .iconst 0, .iaload, .iadd, .iconst 1, .isub, .invokestatic 164, .ifCond .ne 2]),
  (26, [.iconst 1, .goto 3]),
  (30, [.iconst 0]),
  (31, [.putfield 654, .aload 0, .dup, .getfield 653, .aload 0, .getfield 654, .ifCond .eq 5]),
  (46, [.iconst 0, .goto 6]),
  (50, [.iconst 1]),
  (51, [.iadd, .putfield 653, .iload 1, .iconst 48, .isub, .ireturn])]
def md_Model_readEnd : pm_M := ((⟨"QuestionDeskModel", "readEnd", "()I"⟩, prog_12_method_21_code, 2, some .int), (0, 10), cd_Model_readEnd)
def cd_Model_take : List (Nat × List Instr) := [(0, [.aload 0, .aload 0, .invokevirtual 180, .iload 1, .if_icmp .eq 2]),
  (9, [.iconst 1, .goto 3]),
  (13, [.iconst 0]),
  (14, [.putfield 654, .aload 0, .dup, .getfield 653, .aload 0, .getfield 654, .ifCond .eq 5]),
  (29, [.iconst 0, .goto 6]),
  (33, [.iconst 1]),
  (34, [.iadd, .putfield 653, .aload 0, .getfield 654, .ifCond .ne 8]),
  (45, [.iconst 1, .goto 9]),
  (49, [.iconst 0]),
  (50, [.ireturn])]
def md_Model_take : pm_M := ((⟨"QuestionDeskModel", "take", "(I)Z"⟩, prog_12_method_20_code, 2, some .boolean), (1, 10), cd_Model_take)
def cd_Model_add : List (Nat × List Instr) := [(0, [.aload 0, .getfield 657, .aload 0, .getfield 655, .iload 1, .iastore, .aload 0, .getfield 658, .aload 0, .getfield 655, .iload 2, .iastore, .aload 0, .getfield 659, .aload 0, .getfield 655, .iload 3, .iastore, .aload 0, .getfield 660, .aload 0, .getfield 655, .iload 4, .iastore, .aload 0, .getfield 661, .aload 0, .getfield 655, .iload 5, .iastore, .aload 0, .dup, .getfield 655, .iconst 1, .iadd, .putfield 655, .aload 0, .getfield 655, .iconst 1, .isub, .ireturn])]
def md_Model_add : pm_M := ((⟨"QuestionDeskModel", "add", "(IIIII)I"⟩, prog_12_method_22_code, 6, some .int), (5, 10), cd_Model_add)
def cd_Model_part : List (Nat × List Instr) := [(0, [.iload 1, .istore 2, .aload 0, .getfield 666, .ifCond .le 2]),
  (9, [.iconst 1, .goto 3]),
  (13, [.iconst 0]),
  (14, [.istore 3]),
  (15, [.iload 3, .ifCond .eq 25]),
  (19, [.aload 0, .getfield 666, .iconst 1, .isub, .istore 4, .aload 0, .getfield 663, .iload 4, .iaload, .ifCond .ge 12]),
  (37, [.aload 0, .aload 0, .getfield 662, .iload 4, .iaload, .iconst 1, .if_icmp .ne 8]),
  (49, [.iconst 118, .goto 9]),
  (54, [.iconst 47]),
  (56, [.invokevirtual 183, .ifCond .eq 11]),
  (62, [.aload 0, .getfield 663, .iload 4, .iload 2, .iastore]),
  (70, [.iconst 0, .istore 3, .goto 24]),
  (75, [.aload 0, .aload 0, .getfield 662, .iload 4, .iaload, .iconst 1, .if_icmp .ne 14]),
  (87, [.iconst 41, .goto 15]),
  (92, [.iconst 125]),
  (94, [.invokevirtual 183, .ifCond .eq 23]),
  (100, [.aload 0, .aload 0, .getfield 662, .iload 4, .iaload, .aload 0, .getfield 663, .iload 4, .iaload, .iload 2, .aload 0, .getfield 664, .iload 4, .iaload, .aload 0, .getfield 665, .iload 4, .iaload, .invokevirtual 184, .istore 2, .aload 0, .dup, .getfield 666, .iconst 1, .isub, .putfield 666, .aload 0, .getfield 666, .ifCond .le 18]),
  (151, [.iconst 1, .goto 19]),
  (155, [.iconst 0]),
  (156, [.istore 3, .aload 0, .aload 0, .getfield 666, .ifCond .ne 21]),
  (165, [.iconst 1, .goto 22]),
  (169, [.iconst 0]),
  (170, [.putfield 667, .goto 24]),
  (176, [.iconst 0, .istore 3]),
  (178, [.goto 4]),
  (181, [.return_])]
def md_Model_part : pm_M := ((⟨"QuestionDeskModel", "part", "(I)V"⟩, prog_12_method_24_code, 5, none), (1, 10), cd_Model_part)
def cd_Model_tree : List (Nat × List Instr) := [(0, [.aload 0, .iconst 0, .putfield 640, .iload 1, .iconst 0, .iconst 7, .invokestatic 164, .ifCond .ne 2]),
  (15, [.iconst (-1), .ireturn]),
  (17, [.aload 0, .getfield 641, .iconst 3, .iaload, .iconst 12, .if_icmp .ne 4]),
  (28, [.iconst (-2), .ireturn]),
  (31, [.aload 0, .iload 1, .invokevirtual 178, .istore 2, .iload 2, .ifCond .ge 6]),
  (41, [.iload 2, .ireturn]),
  (43, [.aload 0, .iload 1, .invokevirtual 179, .istore 3, .iload 3, .ifCond .lt 8]),
  (53, [.iconst (-100), .iload 3, .isub, .ireturn]),
  (58, [.aload 0, .getfield 641, .iconst 3, .iaload, .istore 4, .iconst 0, .istore 5]),
  (69, [.iload 5, .aload 0, .getfield 655, .if_icmp .ge 11]),
  (78, [.aload 0, .getfield 646, .iconst 100, .iload 4, .imul, .iload 5, .iadd, .aload 0, .getfield 657, .iload 5, .iaload, .iastore, .aload 0, .getfield 647, .iconst 100, .iload 4, .imul, .iload 5, .iadd, .aload 0, .getfield 658, .iload 5, .iaload, .iastore, .aload 0, .getfield 648, .iconst 100, .iload 4, .imul, .iload 5, .iadd, .aload 0, .getfield 659, .iload 5, .iaload, .iastore, .aload 0, .getfield 649, .iconst 100, .iload 4, .imul, .iload 5, .iadd, .aload 0, .getfield 660, .iload 5, .iaload, .iastore, .aload 0, .getfield 650, .iconst 100, .iload 4, .imul, .iload 5, .iadd, .aload 0, .getfield 661, .iload 5, .iaload, .iastore, .iinc 5 1, .goto 9]),
  (184, [.aload 0, .getfield 644, .iload 4, .aload 0, .getfield 655, .iastore, .aload 0, .getfield 645, .iload 4, .aload 0, .getfield 656, .iastore, .aload 0, .getfield 641, .iconst 3, .dup2, .iaload, .iconst 1, .iadd, .iastore, .iload 4, .ireturn])]
def md_Model_tree : pm_M := ((⟨"QuestionDeskModel", "tree", "(I)I"⟩, prog_12_method_28_code, 6, some .int), (1, 10), cd_Model_tree)
def cd_Model_beat : List (Nat × List Instr) := [(0, [.aload 0, .iconst 0, .putfield 640, .iload 1, .invokestatic 169, .ifCond .eq 3]),
  (12, [.iload 2, .invokestatic 169, .ifCond .eq 3]),
  (19, [.aload 0, .iload 1, .iload 2, .invokevirtual 188, .goto 4]),
  (28, [.iconst (-1000000001)]),
  (30, [.ireturn])]
def md_Model_beat : pm_M := ((⟨"QuestionDeskModel", "beat", "(II)I"⟩, prog_12_method_41_code, 3, some .int), (2, 10), cd_Model_beat)
def cd_Model_margin : List (Nat × List Instr) := [(0, [.iconst 0, .istore 3, .iconst 0, .istore 4]),
  (5, [.iload 4, .aload 0, .invokevirtual 189, .if_icmp .ge 8]),
  (14, [.aload 0, .iload 4, .iload 1, .invokevirtual 190, .istore 5, .aload 0, .iload 4, .iload 2, .invokevirtual 190, .istore 6, .iload 3, .iload 5, .iload 6, .if_icmp .ge 4]),
  (40, [.aload 0, .iload 4, .invokevirtual 193, .goto 7]),
  (49, [.iload 5, .iload 6, .if_icmp .le 6]),
  (56, [.aload 0, .iload 4, .invokevirtual 193, .ineg, .goto 7]),
  (66, [.iconst 0]),
  (67, [.iadd, .istore 3, .iinc 4 1, .goto 1]),
  (75, [.iload 3, .ireturn])]
def md_Model_margin : pm_M := ((⟨"QuestionDeskModel", "margin", "(II)I"⟩, prog_12_method_38_code, 7, some .int), (2, 10), cd_Model_margin)
def cd_Model_members : List (Nat × List Instr) := [(0, [.aload 0, .getfield 675, .ifCond .le 2]),
  (7, [.aload 0, .getfield 675, .goto 3]),
  (14, [.aload 0, .getfield 641, .iconst 2, .iaload]),
  (20, [.ireturn])]
def md_Model_members : pm_M := ((⟨"QuestionDeskModel", "members", "()I"⟩, prog_12_method_30_code, 1, some .int), (0, 10), cd_Model_members)
def cd_Model_wishOf : List (Nat × List Instr) := [(0, [.aload 0, .getfield 675, .ifCond .le 2]),
  (7, [.aload 0, .getfield 676, .iload 1, .iaload, .iload 2, .invokestatic 191, .ireturn]),
  (18, [.iload 1, .aload 0, .getfield 671, .if_icmp .ne 4]),
  (26, [.aload 0, .getfield 672, .iload 2, .iaload, .goto 7]),
  (35, [.aload 0, .getfield 670, .iload 1, .ishr, .iconst 1, .iand, .iconst 1, .if_icmp .ne 6]),
  (47, [.aload 0, .getfield 641, .iconst 130, .iconst 7, .iload 1, .imul, .iadd, .iload 2, .iadd, .iaload, .goto 7]),
  (65, [.aload 0, .getfield 641, .iconst 60, .iconst 7, .iload 1, .imul, .iadd, .iload 2, .iadd, .iaload]),
  (79, [.ireturn])]
def md_Model_wishOf : pm_M := ((⟨"QuestionDeskModel", "wishOf", "(II)I"⟩, prog_12_method_37_code, 3, some .int), (2, 10), cd_Model_wishOf)
def cd_Model_placeIn : List (Nat × List Instr) := [(0, [.iload 0, .iconst 0, .invokestatic 192, .iload 1, .if_icmp .ne 2]),
  (9, [.iconst 0, .goto 5]),
  (13, [.iload 0, .iconst 1, .invokestatic 192, .iload 1, .if_icmp .ne 4]),
  (22, [.iconst 1, .goto 5]),
  (26, [.iconst 2]),
  (27, [.ireturn])]
def md_Model_placeIn : pm_M := ((⟨"QuestionDeskModel", "placeIn", "(II)I"⟩, prog_12_method_36_code, 2, some .int), (2, 99), cd_Model_placeIn)
def cd_Model_liked : List (Nat × List Instr) := [(0, [.iload 0, .iconst 2, .idiv, .istore 2, .iload 2, .ifCond .ne 2]),
  (8, [.iconst 1, .goto 3]),
  (12, [.iconst 0]),
  (13, [.istore 3, .iconst 3, .iload 2, .isub, .iload 3, .isub, .istore 4, .iload 1, .ifCond .ne 5]),
  (25, [.iload 2, .goto 14]),
  (29, [.iload 1, .iconst 1, .if_icmp .ne 7]),
  (34, [.iconst 1, .goto 8]),
  (38, [.iconst 0]),
  (39, [.iload 0, .iconst 2, .irem, .ifCond .ne 10]),
  (45, [.iconst 1, .goto 11]),
  (49, [.iconst 0]),
  (50, [.if_icmp .ne 13]),
  (53, [.iload 3, .goto 14]),
  (57, [.iload 4]),
  (59, [.ireturn])]
def md_Model_liked : pm_M := ((⟨"QuestionDeskModel", "liked", "(II)I"⟩, prog_12_method_35_code, 5, some .int), (2, 99), cd_Model_liked)
def cd_Model_voicesOf : List (Nat × List Instr) := [(0, [.aload 0, .getfield 675, .ifCond .le 2]),
  (7, [.iconst 1, .goto 3]),
  (11, [.aload 0, .getfield 641, .iconst 20, .iload 1, .iadd, .iaload]),
  (20, [.ireturn])]
def md_Model_voicesOf : pm_M := ((⟨"QuestionDeskModel", "voicesOf", "(I)I"⟩, prog_12_method_31_code, 2, some .int), (1, 10), cd_Model_voicesOf)
def cd_Model_stands : List (Nat × List Instr) := [(0, [.aload 0, .iconst 0, .putfield 640, .iload 1, .invokestatic 169, .ifCond .eq 3]),
  (12, [.iload 2, .invokestatic 169, .ifCond .eq 3]),
  (19, [.aload 0, .iload 1, .iload 2, .invokevirtual 195, .goto 4]),
  (28, [.iconst (-1)]),
  (29, [.ireturn])]
def md_Model_stands : pm_M := ((⟨"QuestionDeskModel", "stands", "(II)I"⟩, prog_12_method_42_code, 3, some .int), (2, 10), cd_Model_stands)
def cd_Model_standing : List (Nat × List Instr) := [(0, [.aload 0, .iload 2, .iload 1, .invokevirtual 196, .ifCond .eq 2]),
  (9, [.iload 2, .goto 3]),
  (13, [.iload 1]),
  (14, [.ireturn])]
def md_Model_standing : pm_M := ((⟨"QuestionDeskModel", "standing", "(II)I"⟩, prog_12_method_40_code, 3, some .int), (2, 10), cd_Model_standing)
def cd_Model_beats : List (Nat × List Instr) := [(0, [.iload 1, .iload 2, .if_icmp .ne 2]),
  (5, [.iconst 0, .ireturn]),
  (7, [.aload 0, .iload 1, .iload 2, .invokevirtual 188, .istore 3, .iload 3, .ifCond .gt 8]),
  (18, [.iload 3, .ifCond .ne 9]),
  (22, [.aload 0, .getfield 641, .iconst 1, .iaload, .ifCond .ne 7]),
  (31, [.iload 1, .iload 2, .if_icmp .ge 9]),
  (36, [.goto 8]),
  (39, [.iload 1, .iload 2, .if_icmp .le 9]),
  (44, [.iconst 1, .goto 10]),
  (48, [.iconst 0]),
  (49, [.ireturn])]
def md_Model_beats : pm_M := ((⟨"QuestionDeskModel", "beats", "(II)Z"⟩, prog_12_method_39_code, 4, some .boolean), (2, 10), cd_Model_beats)
def cd_Model_of : List (Nat × List Instr) := [(0, [.aload 0, .iconst 0, .putfield 640, .aload 0, .iload 1, .invokevirtual 198, .ifCond .eq 2]),
  (13, [.iload 2, .iconst 0, .iconst 2, .invokestatic 164, .ifCond .ne 3]),
  (22, [.iconst (-1), .ireturn]),
  (24, [.iload 2, .ifCond .ne 5]),
  (28, [.aload 0, .getfield 645, .iload 1, .iaload, .ireturn]),
  (35, [.aload 0, .iload 1, .invokevirtual 199, .pop, .iload 2, .iconst 1, .if_icmp .ne 7]),
  (46, [.aload 0, .getfield 678, .aload 0, .getfield 655, .iconst 1, .isub, .iaload, .goto 8]),
  (60, [.aload 0, .getfield 677, .aload 0, .getfield 655, .iconst 1, .isub, .iaload]),
  (71, [.ireturn])]
def md_Model_of : pm_M := ((⟨"QuestionDeskModel", "of", "(II)I"⟩, prog_12_method_49_code, 3, some .int), (2, 10), cd_Model_of)
def cd_Model_isTree : List (Nat × List Instr) := [(0, [.iload 1, .iconst 0, .aload 0, .getfield 641, .iconst 3, .iaload, .iconst 1, .isub, .invokestatic 164, .ireturn])]
def md_Model_isTree : pm_M := ((⟨"QuestionDeskModel", "isTree", "(I)Z"⟩, prog_12_method_7_code, 2, some .boolean), (1, 10), cd_Model_isTree)
def cd_Model_endOf : List (Nat × List Instr) := [(0, [.aload 0, .iload 1, .invokevirtual 200, .aload 0, .invokevirtual 201, .ireturn])]
def md_Model_endOf : pm_M := ((⟨"QuestionDeskModel", "endOf", "(I)I"⟩, prog_12_method_48_code, 2, some .int), (1, 10), cd_Model_endOf)
def cd_Model_load : List (Nat × List Instr) := [(0, [.aload 0, .aload 0, .getfield 644, .iload 1, .iaload, .putfield 655, .iconst 0, .istore 2]),
  (12, [.iload 2, .aload 0, .getfield 655, .if_icmp .ge 3]),
  (20, [.aload 0, .getfield 657, .iload 2, .aload 0, .getfield 646, .iconst 100, .iload 1, .imul, .iload 2, .iadd, .iaload, .iastore, .aload 0, .getfield 658, .iload 2, .aload 0, .getfield 647, .iconst 100, .iload 1, .imul, .iload 2, .iadd, .iaload, .iastore, .aload 0, .getfield 659, .iload 2, .aload 0, .getfield 648, .iconst 100, .iload 1, .imul, .iload 2, .iadd, .iaload, .iastore, .aload 0, .getfield 660, .iload 2, .aload 0, .getfield 649, .iconst 100, .iload 1, .imul, .iload 2, .iadd, .iaload, .iastore, .aload 0, .getfield 661, .iload 2, .aload 0, .getfield 650, .iconst 100, .iload 1, .imul, .iload 2, .iadd, .iaload, .iastore, .iinc 2 1, .goto 1]),
  (111, [.return_])]
def md_Model_load : pm_M := ((⟨"QuestionDeskModel", "load", "(I)V"⟩, prog_12_method_29_code, 3, none), (1, 10), cd_Model_load)
def cd_Model_settle : List (Nat × List Instr) := [(0, [.iconst 0, .istore 1]),
  (2, [.iload 1, .aload 0, .getfield 655, .if_icmp .ge 16]),
  (10, [.aload 0, .getfield 657, .iload 1, .iaload, .ifCond .ne 7]),
  (19, [.aload 0, .getfield 677, .iload 1, .aload 0, .getfield 660, .iload 1, .iaload, .iastore, .aload 0, .getfield 678, .iload 1, .iconst 1, .aload 0, .getfield 660, .iload 1, .iaload, .ishl, .iastore, .aload 0, .getfield 679, .iload 1, .aload 0, .getfield 660, .iload 1, .iaload, .iastore, .iconst 0, .istore 2]),
  (59, [.iload 2, .iconst 6, .if_icmp .ge 6]),
  (65, [.aload 0, .getfield 680, .iconst 6, .iload 1, .imul, .iload 2, .iadd, .aload 0, .getfield 660, .iload 1, .iaload, .iastore, .iinc 2 1, .goto 4]),
  (88, [.goto 15]),
  (91, [.aload 0, .getfield 678, .iload 1, .aload 0, .getfield 678, .aload 0, .getfield 658, .iload 1, .iaload, .iaload, .aload 0, .getfield 678, .aload 0, .getfield 659, .iload 1, .iaload, .iaload, .ior, .iastore, .aload 0, .getfield 657, .iload 1, .iaload, .iconst 1, .if_icmp .ne 9]),
  (130, [.aload 0, .iload 1, .invokevirtual 202, .goto 15]),
  (138, [.aload 0, .aload 0, .getfield 660, .iload 1, .iaload, .aload 0, .getfield 661, .iload 1, .iaload, .invokevirtual 196, .ifCond .eq 11]),
  (157, [.aload 0, .getfield 658, .iload 1, .iaload, .goto 12]),
  (166, [.aload 0, .getfield 659, .iload 1, .iaload]),
  (172, [.istore 2, .aload 0, .getfield 677, .iload 1, .aload 0, .getfield 677, .iload 2, .iaload, .iastore, .aload 0, .getfield 679, .iload 1, .aload 0, .getfield 679, .iload 2, .iaload, .iastore, .iconst 0, .istore 3]),
  (199, [.iload 3, .iconst 6, .if_icmp .ge 15]),
  (205, [.aload 0, .getfield 680, .iconst 6, .iload 1, .imul, .iload 3, .iadd, .aload 0, .getfield 680, .iconst 6, .iload 2, .imul, .iload 3, .iadd, .iaload, .iastore, .iinc 3 1, .goto 13]),
  (233, [.iinc 1 1, .goto 1]),
  (239, [.aload 0, .getfield 679, .aload 0, .getfield 655, .iconst 1, .isub, .iaload, .ireturn])]
def md_Model_settle : pm_M := ((⟨"QuestionDeskModel", "settle", "()I"⟩, prog_12_method_47_code, 4, some .int), (0, 10), cd_Model_settle)
def cd_Model_settleQuestion : List (Nat × List Instr) := [(0, [.aload 0, .getfield 658, .iload 1, .iaload, .istore 2, .aload 0, .getfield 659, .iload 1, .iaload, .istore 3, .iconst 0, .istore 4, .iconst 0, .istore 5]),
  (20, [.iload 5, .aload 0, .invokevirtual 189, .if_icmp .ge 3]),
  (29, [.iload 4, .aload 0, .iload 5, .iload 2, .iload 3, .invokevirtual 203, .iadd, .istore 4, .iinc 5 1, .goto 1]),
  (48, [.iload 4, .ifCond .gt 13]),
  (53, [.iload 4, .ifCond .ne 14]),
  (58, [.aload 0, .getfield 677, .iload 2, .iaload, .aload 0, .getfield 677, .iload 3, .iaload, .if_icmp .eq 13]),
  (73, [.aload 0, .getfield 677, .iload 2, .iaload, .aload 0, .getfield 677, .iload 3, .iaload, .if_icmp .ge 8]),
  (88, [.iconst 1, .goto 9]),
  (92, [.iconst 0]),
  (93, [.aload 0, .getfield 641, .iconst 1, .iaload, .ifCond .ne 11]),
  (102, [.iconst 1, .goto 12]),
  (106, [.iconst 0]),
  (107, [.if_icmp .ne 14]),
  (110, [.iconst 1, .goto 15]),
  (114, [.iconst 0]),
  (115, [.istore 5, .aload 0, .getfield 681, .iload 1, .iload 4, .iastore, .aload 0, .getfield 682, .iload 1, .iload 5, .ifCond .eq 17]),
  (135, [.iconst 0, .goto 18]),
  (139, [.iconst 1]),
  (140, [.iastore, .aload 0, .getfield 679, .iload 1, .iload 5, .ifCond .eq 20]),
  (151, [.aload 0, .getfield 679, .iload 2, .iaload, .goto 21]),
  (160, [.aload 0, .getfield 679, .iload 3, .iaload]),
  (166, [.iastore, .aload 0, .getfield 677, .iload 1, .aload 0, .getfield 677, .iload 2, .iaload, .iastore, .iconst 1, .istore 6]),
  (182, [.iload 6, .iconst 6, .if_icmp .ge 24]),
  (189, [.aload 0, .getfield 680, .iconst 6, .iload 1, .imul, .iload 6, .iadd, .aload 0, .aload 0, .getfield 680, .iconst 6, .iload 2, .imul, .iload 6, .iadd, .iconst 1, .isub, .iaload, .aload 0, .getfield 680, .iconst 6, .iload 3, .imul, .iload 6, .iadd, .iconst 1, .isub, .iaload, .invokevirtual 195, .iastore, .iinc 6 1, .goto 22]),
  (239, [.aload 0, .getfield 680, .iconst 6, .iload 1, .imul, .aload 0, .getfield 677, .iload 1, .iaload, .iastore, .return_])]
def md_Model_settleQuestion : pm_M := ((⟨"QuestionDeskModel", "settleQuestion", "(I)V"⟩, prog_12_method_46_code, 7, none), (1, 10), cd_Model_settleQuestion)
def cd_Model_voteOf : List (Nat × List Instr) := [(0, [.aload 0, .iload 1, .invokevirtual 193, .istore 4, .aload 0, .iload 1, .invokevirtual 204, .tableswitch 9 0 4 #[1, 2, 3, 4, 5]]),
  (48, [.iload 4, .aload 0, .iload 1, .aload 0, .getfield 677, .iload 2, .iaload, .aload 0, .getfield 677, .iload 3, .iaload, .invokevirtual 205, .imul, .ireturn]),
  (69, [.iload 4, .aload 0, .iload 1, .aload 0, .getfield 679, .iload 2, .iaload, .aload 0, .getfield 679, .iload 3, .iaload, .invokevirtual 205, .imul, .ireturn]),
  (90, [.iload 4, .aload 0, .iload 1, .aload 0, .getfield 680, .iconst 6, .iload 2, .imul, .aload 0, .getfield 641, .iconst 30, .iload 1, .iadd, .iaload, .iadd, .iaload, .aload 0, .getfield 680, .iconst 6, .iload 3, .imul, .aload 0, .getfield 641, .iconst 30, .iload 1, .iadd, .iaload, .iadd, .iaload, .invokevirtual 205, .imul, .ireturn]),
  (137, [.iload 4, .aload 0, .aload 0, .iload 1, .invokevirtual 206, .iload 2, .iload 3, .invokevirtual 207, .imul, .ireturn]),
  (152, [.aload 0, .getfield 678, .iload 2, .iaload, .aload 0, .iload 1, .invokevirtual 208, .ishr, .iconst 1, .iand, .istore 5, .aload 0, .getfield 678, .iload 3, .iaload, .aload 0, .iload 1, .invokevirtual 208, .ishr, .iconst 1, .iand, .istore 6, .iload 5, .iload 6, .if_icmp .eq 7]),
  (191, [.iload 4, .iload 5, .iload 6, .isub, .imul, .goto 8]),
  (202, [.iload 4, .aload 0, .aload 0, .iload 1, .invokevirtual 206, .iload 2, .iload 3, .invokevirtual 207, .imul]),
  (216, [.ireturn]),
  (217, [.iload 4, .iconst 2, .idiv, .aload 0, .iload 1, .aload 0, .getfield 677, .iload 2, .iaload, .aload 0, .getfield 677, .iload 3, .iaload, .invokevirtual 205, .imul, .iload 4, .iload 4, .iconst 2, .idiv, .isub, .aload 0, .iload 1, .aload 0, .getfield 679, .iload 2, .iaload, .aload 0, .getfield 679, .iload 3, .iaload, .invokevirtual 205, .imul, .iadd, .ireturn])]
def md_Model_voteOf : pm_M := ((⟨"QuestionDeskModel", "voteOf", "(III)I"⟩, prog_12_method_45_code, 7, some .int), (3, 10), cd_Model_voteOf)
def cd_Model_kindOf : List (Nat × List Instr) := [(0, [.aload 0, .getfield 668, .ifCond .lt 2]),
  (7, [.aload 0, .getfield 668, .goto 7]),
  (14, [.aload 0, .getfield 673, .iload 1, .ishr, .iconst 1, .iand, .iconst 1, .if_icmp .ne 4]),
  (26, [.iconst 4, .goto 7]),
  (30, [.aload 0, .getfield 669, .iload 1, .ishr, .iconst 1, .iand, .iconst 1, .if_icmp .ne 6]),
  (42, [.iconst 1, .goto 7]),
  (46, [.aload 0, .getfield 641, .iconst 10, .iload 1, .iadd, .iaload]),
  (55, [.ireturn])]
def md_Model_kindOf : pm_M := ((⟨"QuestionDeskModel", "kindOf", "(I)I"⟩, prog_12_method_32_code, 2, some .int), (1, 10), cd_Model_kindOf)
def cd_Model_sign : List (Nat × List Instr) := [(0, [.aload 0, .iload 1, .iload 2, .invokevirtual 190, .istore 4, .aload 0, .iload 1, .iload 3, .invokevirtual 190, .istore 5, .iload 4, .iload 5, .if_icmp .ge 2]),
  (23, [.iconst 1, .goto 5]),
  (27, [.iload 4, .iload 5, .if_icmp .le 4]),
  (34, [.iconst (-1), .goto 5]),
  (38, [.iconst 0]),
  (39, [.ireturn])]
def md_Model_sign : pm_M := ((⟨"QuestionDeskModel", "sign", "(III)I"⟩, prog_12_method_43_code, 6, some .int), (3, 10), cd_Model_sign)
def cd_Model_partyOf : List (Nat × List Instr) := [(0, [.aload 0, .getfield 673, .iload 1, .ishr, .iconst 1, .iand, .iconst 1, .if_icmp .ne 2]),
  (12, [.iconst 0, .goto 3]),
  (16, [.aload 0, .getfield 641, .iconst 30, .iload 1, .iadd, .iaload]),
  (25, [.ireturn])]
def md_Model_partyOf : pm_M := ((⟨"QuestionDeskModel", "partyOf", "(I)I"⟩, prog_12_method_33_code, 2, some .int), (1, 10), cd_Model_partyOf)
def cd_Model_partySign : List (Nat × List Instr) := [(0, [.iconst 0, .istore 4, .iconst 0, .istore 5]),
  (6, [.iload 5, .aload 0, .invokevirtual 189, .if_icmp .ge 11]),
  (15, [.aload 0, .iload 5, .invokevirtual 204, .iconst 3, .if_icmp .eq 4]),
  (25, [.aload 0, .iload 5, .invokevirtual 204, .iconst 4, .if_icmp .ne 6]),
  (35, [.aload 0, .iload 5, .invokevirtual 206, .iload 1, .if_icmp .ne 6]),
  (45, [.iconst 1, .goto 7]),
  (49, [.iconst 0]),
  (50, [.istore 6, .iload 4, .iload 6, .ifCond .eq 9]),
  (59, [.aload 0, .iload 5, .aload 0, .getfield 677, .iload 2, .iaload, .aload 0, .getfield 677, .iload 3, .iaload, .invokevirtual 205, .aload 0, .iload 5, .invokevirtual 193, .imul, .goto 10]),
  (87, [.iconst 0]),
  (88, [.iadd, .istore 4, .iinc 5 1, .goto 1]),
  (97, [.iload 4, .ifCond .le 13]),
  (102, [.iconst 1, .goto 16]),
  (106, [.iload 4, .ifCond .ge 15]),
  (111, [.iconst (-1), .goto 16]),
  (115, [.iconst 0]),
  (116, [.ireturn])]
def md_Model_partySign : pm_M := ((⟨"QuestionDeskModel", "partySign", "(III)I"⟩, prog_12_method_44_code, 7, some .int), (3, 10), cd_Model_partySign)
def cd_Model_endFor : List (Nat × List Instr) := [(0, [.aload 0, .getfield 673, .iload 1, .ishr, .iconst 1, .iand, .iconst 1, .if_icmp .ne 2]),
  (12, [.aload 0, .getfield 674, .goto 3]),
  (19, [.aload 0, .getfield 641, .iconst 40, .iload 1, .iadd, .iaload]),
  (28, [.ireturn])]
def md_Model_endFor : pm_M := ((⟨"QuestionDeskModel", "endFor", "(I)I"⟩, prog_12_method_34_code, 2, some .int), (1, 10), cd_Model_endFor)
def cd_Model_run : List (Nat × List Instr) := [(0, [.aload 0, .iconst 0, .putfield 640, .aload 0, .iload 1, .invokevirtual 198, .ifCond .eq 2]),
  (13, [.aload 0, .iload 1, .invokevirtual 199, .goto 3]),
  (21, [.iconst (-1)]),
  (22, [.ireturn])]
def md_Model_run : pm_M := ((⟨"QuestionDeskModel", "run", "(I)I"⟩, prog_12_method_50_code, 2, some .int), (1, 10), cd_Model_run)
def cd_Model_ask : List (Nat × List Instr) := [(0, [.aload 0, .iconst 0, .putfield 640, .aload 0, .iload 1, .iload 2, .invokevirtual 211, .ifCond .eq 2]),
  (14, [.iload 3, .iconst 0, .iconst 2, .invokestatic 164, .ifCond .ne 3]),
  (23, [.iconst (-1), .ireturn]),
  (25, [.aload 0, .iload 1, .invokevirtual 199, .pop, .aload 0, .iload 2, .invokevirtual 212, .istore 4, .iload 3, .ifCond .ne 5]),
  (42, [.aload 0, .getfield 682, .iload 4, .iaload, .goto 8]),
  (52, [.iload 3, .iconst 1, .if_icmp .ne 7]),
  (57, [.aload 0, .getfield 679, .aload 0, .getfield 658, .iload 4, .iaload, .iaload, .goto 8]),
  (72, [.aload 0, .getfield 679, .aload 0, .getfield 659, .iload 4, .iaload, .iaload]),
  (84, [.ireturn])]
def md_Model_ask : pm_M := ((⟨"QuestionDeskModel", "ask", "(III)I"⟩, prog_12_method_53_code, 5, some .int), (3, 10), cd_Model_ask)
def cd_Model_isQuestion : List (Nat × List Instr) := [(0, [.aload 0, .iload 1, .invokevirtual 198, .ifCond .eq 3]),
  (8, [.iload 2, .iconst 0, .aload 0, .getfield 645, .iload 1, .iaload, .iconst 1, .isub, .invokestatic 164, .ifCond .eq 3]),
  (24, [.iconst 1, .goto 4]),
  (28, [.iconst 0]),
  (29, [.ireturn])]
def md_Model_isQuestion : pm_M := ((⟨"QuestionDeskModel", "isQuestion", "(II)Z"⟩, prog_12_method_52_code, 3, some .boolean), (2, 10), cd_Model_isQuestion)
def cd_Model_nodeOf : List (Nat × List Instr) := [(0, [.iconst (-1), .istore 2, .iconst 0, .istore 3]),
  (4, [.iload 3, .aload 0, .getfield 655, .if_icmp .ge 7]),
  (12, [.aload 0, .getfield 657, .iload 3, .iaload, .iconst 1, .if_icmp .ne 5]),
  (22, [.aload 0, .getfield 660, .iload 3, .iaload, .iload 1, .if_icmp .ne 5]),
  (32, [.iload 3, .goto 6]),
  (36, [.iload 2]),
  (37, [.istore 2, .iinc 3 1, .goto 1]),
  (44, [.iload 2, .ireturn])]
def md_Model_nodeOf : pm_M := ((⟨"QuestionDeskModel", "nodeOf", "(I)I"⟩, prog_12_method_51_code, 4, some .int), (1, 10), cd_Model_nodeOf)
def cd_Model_wonBy : List (Nat × List Instr) := [(0, [.aload 0, .iconst 0, .putfield 640, .aload 0, .iload 1, .iload 2, .invokevirtual 211, .ifCond .ne 2]),
  (14, [.iconst (-1000000001), .ireturn]),
  (17, [.aload 0, .iload 1, .invokevirtual 199, .pop, .aload 0, .getfield 681, .aload 0, .iload 2, .invokevirtual 212, .iaload, .ireturn])]
def md_Model_wonBy : pm_M := ((⟨"QuestionDeskModel", "wonBy", "(II)I"⟩, prog_12_method_54_code, 3, some .int), (2, 10), cd_Model_wonBy)
def cd_Model_why : List (Nat × List Instr) := [(0, [.aload 0, .iconst 0, .putfield 640, .aload 0, .iload 1, .iload 2, .invokevirtual 211, .ifCond .eq 2]),
  (14, [.aload 0, .iload 3, .invokevirtual 168, .ifCond .ne 3]),
  (22, [.iconst (-1000000001), .ireturn]),
  (25, [.aload 0, .iload 1, .invokevirtual 199, .pop, .aload 0, .iload 2, .invokevirtual 212, .istore 4, .aload 0, .iload 3, .aload 0, .getfield 658, .iload 4, .iaload, .aload 0, .getfield 659, .iload 4, .iaload, .invokevirtual 203, .ireturn])]
def md_Model_why : pm_M := ((⟨"QuestionDeskModel", "why", "(III)I"⟩, prog_12_method_55_code, 5, some .int), (3, 10), cd_Model_why)
def cd_Model_ifAll : List (Nat × List Instr) := [(0, [.aload 0, .iconst 0, .putfield 640, .aload 0, .iload 1, .invokevirtual 198, .ifCond .eq 2]),
  (13, [.iload 2, .iconst 0, .iconst 1, .invokestatic 164, .ifCond .ne 3]),
  (22, [.iconst (-1), .ireturn]),
  (24, [.aload 0, .iload 2, .putfield 668, .aload 0, .iload 1, .invokevirtual 199, .istore 3, .aload 0, .iconst (-1), .putfield 668, .iload 3, .ireturn])]
def md_Model_ifAll : pm_M := ((⟨"QuestionDeskModel", "ifAll", "(II)I"⟩, prog_12_method_56_code, 4, some .int), (2, 10), cd_Model_ifAll)
def cd_Model_parts : List (Nat × List Instr) := [(0, [.aload 0, .iconst 0, .putfield 640, .aload 0, .iload 1, .invokevirtual 198, .ifCond .ne 2]),
  (13, [.iconst (-1), .ireturn]),
  (15, [.aload 0, .iconst 0, .putfield 668, .aload 0, .iload 1, .invokevirtual 199, .pop, .iconst 0, .istore 2]),
  (28, [.iload 2, .aload 0, .getfield 655, .if_icmp .ge 5]),
  (36, [.aload 0, .getfield 683, .iload 2, .aload 0, .getfield 682, .iload 2, .iaload, .iastore, .iinc 2 1, .goto 3]),
  (54, [.aload 0, .iconst 1, .putfield 668, .aload 0, .iload 1, .invokevirtual 199, .pop, .aload 0, .iconst (-1), .putfield 668, .iconst 0, .istore 2]),
  (72, [.iload 2, .aload 0, .getfield 645, .iload 1, .iaload, .if_icmp .ge 10]),
  (82, [.aload 0, .iload 2, .invokevirtual 212, .istore 3, .aload 0, .getfield 683, .iload 3, .iaload, .aload 0, .getfield 682, .iload 3, .iaload, .if_icmp .eq 9]),
  (103, [.iload 2, .ireturn]),
  (105, [.iinc 2 1, .goto 6]),
  (111, [.iconst (-4), .ireturn])]
def md_Model_parts : pm_M := ((⟨"QuestionDeskModel", "parts", "(I)I"⟩, prog_12_method_57_code, 4, some .int), (1, 10), cd_Model_parts)
def cd_Model_order : List (Nat × List Instr) := [(0, [.aload 0, .iconst 0, .putfield 640, .aload 0, .iload 1, .invokevirtual 178, .istore 3, .iload 3, .ifCond .ge 2]),
  (15, [.iload 3, .ireturn]),
  (17, [.aload 0, .getfield 694, .iload 1, .iaload, .iconst 2, .iconst 7, .invokestatic 164, .ifCond .ne 4]),
  (32, [.iconst (-13), .ireturn]),
  (35, [.iconst 0, .istore 4, .iconst 0, .istore 5]),
  (41, [.iload 5, .aload 0, .getfield 694, .iload 1, .iaload, .if_icmp .ge 10]),
  (52, [.aload 0, .getfield 695, .iconst 120, .iload 1, .imul, .iload 5, .iadd, .laload, .l2i, .istore 6, .aload 0, .iload 6, .invokevirtual 218, .ifCond .eq 8]),
  (76, [.iload 4, .iload 6, .ishr, .iconst 1, .iand, .iconst 1, .if_icmp .ne 9]),
  (87, [.iconst (-13), .ireturn]),
  (90, [.iload 4, .iconst 1, .iload 6, .ishl, .ior, .istore 4, .aload 0, .getfield 684, .iload 5, .iload 6, .iastore, .iinc 5 1, .goto 5]),
  (114, [.aload 0, .aload 0, .getfield 694, .iload 1, .iaload, .putfield 685, .aload 0, .iload 2, .invokevirtual 219, .ireturn])]
def md_Model_order : pm_M := ((⟨"QuestionDeskModel", "order", "(IZ)I"⟩, prog_12_method_59_code, 7, some .int), (2, 10), cd_Model_order)
def cd_Model_isThere : List (Nat × List Instr) := [(0, [.iload 1, .iconst 0, .aload 0, .getfield 641, .iconst 0, .iaload, .iconst 1, .isub, .invokestatic 164, .ireturn])]
def md_Model_isThere : pm_M := ((⟨"QuestionDeskModel", "isThere", "(I)Z"⟩, prog_12_method_5_code, 2, some .boolean), (1, 10), cd_Model_isThere)
def cd_Model_orderEnds : List (Nat × List Instr) := [(0, [.iload 1, .ifCond .ne 5]),
  (4, [.aload 0, .getfield 684, .iconst 0, .iaload, .istore 2, .iconst 1, .istore 3]),
  (13, [.iload 3, .aload 0, .getfield 685, .if_icmp .ge 4]),
  (21, [.aload 0, .iload 2, .aload 0, .getfield 684, .iload 3, .iaload, .invokevirtual 195, .istore 2, .iinc 3 1, .goto 2]),
  (39, [.iload 2, .ireturn]),
  (41, [.aload 0, .getfield 685, .istore 2]),
  (46, [.iload 2, .ifCond .le 14]),
  (50, [.iconst 0, .istore 3]),
  (52, [.iload 3, .iconst 7, .if_icmp .ge 13]),
  (58, [.aload 0, .getfield 686, .iconst 7, .iload 2, .imul, .iload 3, .iadd, .iload 2, .aload 0, .getfield 685, .if_icmp .ne 11]),
  (76, [.iload 3, .goto 12]),
  (80, [.aload 0, .aload 0, .getfield 686, .iconst 7, .iload 2, .iconst 1, .iadd, .imul, .iload 3, .iadd, .iaload, .aload 0, .getfield 686, .iconst 7, .iload 2, .iconst 1, .iadd, .imul, .aload 0, .getfield 684, .iload 2, .iaload, .iadd, .iaload, .invokevirtual 195]),
  (115, [.iastore, .iinc 3 1, .goto 8]),
  (122, [.iinc 2 (-1), .goto 6]),
  (128, [.aload 0, .getfield 686, .iconst 7, .aload 0, .getfield 684, .iconst 0, .iaload, .iadd, .iaload, .ireturn])]
def md_Model_orderEnds : pm_M := ((⟨"QuestionDeskModel", "orderEnds", "(Z)I"⟩, prog_12_method_58_code, 4, some .int), (1, 10), cd_Model_orderEnds)
def cd_Model_reach : List (Nat × List Instr) := [(0, [.aload 0, .iconst 0, .putfield 640, .aload 0, .invokevirtual 221, .istore 2, .iconst 0, .istore 3, .iconst 0, .istore 4]),
  (15, [.iload 4, .iload 2, .if_icmp .ge 6]),
  (21, [.aload 0, .iload 4, .iload 2, .invokevirtual 222, .iload 3, .iconst 1, .aload 0, .getfield 685, .iconst 1, .if_icmp .ne 4]),
  (38, [.aload 0, .getfield 684, .iconst 0, .iaload, .goto 5]),
  (47, [.aload 0, .iload 1, .invokevirtual 219]),
  (52, [.ishl, .ior, .istore 3, .iinc 4 1, .goto 1]),
  (61, [.iload 3, .ireturn])]
def md_Model_reach : pm_M := ((⟨"QuestionDeskModel", "reach", "(Z)I"⟩, prog_12_method_62_code, 5, some .int), (1, 10), cd_Model_reach)
def cd_Model_allOrders : List (Nat × List Instr) := [(0, [.iconst 1, .istore 1, .iconst 2, .istore 2]),
  (4, [.iload 2, .aload 0, .getfield 641, .iconst 0, .iaload, .if_icmp .gt 3]),
  (14, [.iload 1, .iload 2, .imul, .istore 1, .iinc 2 1, .goto 1]),
  (24, [.iload 1, .ireturn])]
def md_Model_allOrders : pm_M := ((⟨"QuestionDeskModel", "allOrders", "()I"⟩, prog_12_method_61_code, 3, some .int), (0, 10), cd_Model_allOrders)
def cd_Model_findOrder : List (Nat × List Instr) := [(0, [.iload 1, .istore 3, .iload 2, .istore 4, .iconst 0, .istore 5, .aload 0, .aload 0, .getfield 641, .iconst 0, .iaload, .putfield 685, .iconst 0, .istore 6]),
  (21, [.iload 6, .aload 0, .getfield 685, .if_icmp .ge 10]),
  (30, [.iload 4, .aload 0, .getfield 685, .iload 6, .isub, .idiv, .istore 4, .iload 3, .iload 4, .idiv, .istore 7, .iload 3, .iload 4, .irem, .istore 3, .iconst 0, .istore 8]),
  (56, [.iload 5, .iload 8, .ishr, .iconst 1, .iand, .iconst 1, .if_icmp .eq 5]),
  (67, [.iload 7, .ifCond .le 9]),
  (72, [.iload 7, .iload 5, .iload 8, .ishr, .iconst 1, .iand, .iconst 1, .if_icmp .ne 7]),
  (85, [.iconst 0, .goto 8]),
  (89, [.iconst 1]),
  (90, [.isub, .istore 7, .iinc 8 1, .goto 3]),
  (99, [.iload 5, .iconst 1, .iload 8, .ishl, .ior, .istore 5, .aload 0, .getfield 684, .iload 6, .iload 8, .iastore, .iinc 6 1, .goto 1]),
  (123, [.return_])]
def md_Model_findOrder : pm_M := ((⟨"QuestionDeskModel", "findOrder", "(II)V"⟩, prog_12_method_60_code, 9, none), (2, 10), cd_Model_findOrder)
def cd_Model_first : List (Nat × List Instr) := [(0, [.aload 0, .iconst 0, .putfield 640, .aload 0, .iload 1, .invokevirtual 218, .ifCond .ne 2]),
  (13, [.iconst (-1), .ireturn]),
  (15, [.aload 0, .invokevirtual 221, .istore 3, .iconst 0, .istore 4]),
  (23, [.iload 4, .iload 3, .if_icmp .ge 13]),
  (29, [.aload 0, .iload 4, .iload 3, .invokevirtual 222, .aload 0, .getfield 685, .iconst 1, .if_icmp .ne 6]),
  (44, [.aload 0, .getfield 684, .iconst 0, .iaload, .goto 7]),
  (53, [.aload 0, .iload 2, .invokevirtual 219]),
  (58, [.iload 1, .if_icmp .ne 12]),
  (62, [.iconst 0, .istore 5, .aload 0, .getfield 685, .iconst 1, .isub, .istore 6]),
  (73, [.iload 6, .ifCond .lt 11]),
  (78, [.iconst 8, .iload 5, .imul, .aload 0, .getfield 684, .iload 6, .iaload, .iadd, .istore 5, .iinc 6 (-1), .goto 9]),
  (99, [.iload 5, .ireturn]),
  (102, [.iinc 4 1, .goto 3]),
  (108, [.iconst (-4), .ireturn])]
def md_Model_first : pm_M := ((⟨"QuestionDeskModel", "first", "(IZ)I"⟩, prog_12_method_63_code, 7, some .int), (2, 10), cd_Model_first)
def cd_Model_best : List (Nat × List Instr) := [(0, [.aload 0, .iconst 0, .putfield 640, .iconst 0, .istore 1]),
  (7, [.iload 1, .aload 0, .getfield 641, .iconst 0, .iaload, .if_icmp .ge 13]),
  (17, [.iconst 1, .istore 2, .iconst 0, .istore 3]),
  (21, [.iload 3, .aload 0, .getfield 641, .iconst 0, .iaload, .if_icmp .ge 10]),
  (31, [.iload 2, .ifCond .eq 8]),
  (35, [.iload 1, .iload 3, .if_icmp .eq 7]),
  (40, [.aload 0, .iload 1, .iload 3, .invokevirtual 196, .ifCond .eq 8]),
  (49, [.iconst 1, .goto 9]),
  (53, [.iconst 0]),
  (54, [.istore 2, .iinc 3 1, .goto 3]),
  (61, [.iload 2, .ifCond .eq 12]),
  (65, [.iload 1, .ireturn]),
  (67, [.iinc 1 1, .goto 1]),
  (73, [.iconst (-4), .ireturn])]
def md_Model_best : pm_M := ((⟨"QuestionDeskModel", "best", "()I"⟩, prog_12_method_64_code, 4, some .int), (0, 10), cd_Model_best)
def cd_Model_top : List (Nat × List Instr) := [(0, [.aload 0, .iconst 0, .putfield 640, .iload 1, .iconst 0, .iconst 1, .invokestatic 164, .ifCond .ne 2]),
  (14, [.iconst (-1), .ireturn]),
  (16, [.iconst 0, .istore 2, .iconst 0, .istore 3]),
  (20, [.iload 3, .aload 0, .getfield 641, .iconst 0, .iaload, .if_icmp .ge 15]),
  (30, [.iload 1, .ifCond .ne 8]),
  (34, [.aload 0, .iload 3, .invokevirtual 226, .iconst 1, .aload 0, .getfield 641, .iconst 0, .iaload, .ishl, .iconst 1, .isub, .if_icmp .ne 7]),
  (52, [.iconst 1, .goto 11]),
  (56, [.iconst 0, .goto 11]),
  (60, [.aload 0, .iload 3, .invokevirtual 227, .ifCond .ne 10]),
  (68, [.iconst 1, .goto 11]),
  (72, [.iconst 0]),
  (73, [.istore 4, .iload 2, .iload 4, .ifCond .eq 13]),
  (81, [.iconst 1, .iload 3, .ishl, .goto 14]),
  (87, [.iconst 0]),
  (88, [.ior, .istore 2, .iinc 3 1, .goto 3]),
  (96, [.iload 2, .ireturn])]
def md_Model_top : pm_M := ((⟨"QuestionDeskModel", "top", "(I)I"⟩, prog_12_method_67_code, 5, some .int), (1, 10), cd_Model_top)
def cd_Model_reachedFrom : List (Nat × List Instr) := [(0, [.iconst 1, .iload 1, .ishl, .istore 2, .iconst 1, .istore 3]),
  (6, [.iload 3, .ifCond .eq 13]),
  (10, [.iconst 0, .istore 3, .iconst 0, .istore 4]),
  (15, [.iload 4, .aload 0, .getfield 641, .iconst 0, .iaload, .if_icmp .ge 12]),
  (26, [.iconst 0, .istore 5]),
  (29, [.iload 5, .aload 0, .getfield 641, .iconst 0, .iaload, .if_icmp .ge 11]),
  (40, [.iload 2, .iload 4, .ishr, .iconst 1, .iand, .iconst 1, .if_icmp .ne 10]),
  (50, [.iload 2, .iload 5, .ishr, .iconst 1, .iand, .ifCond .ne 10]),
  (59, [.aload 0, .iload 4, .iload 5, .invokevirtual 196, .ifCond .eq 10]),
  (70, [.iload 2, .iconst 1, .iload 5, .ishl, .ior, .istore 2, .iconst 1, .istore 3]),
  (79, [.iinc 5 1, .goto 5]),
  (85, [.iinc 4 1, .goto 3]),
  (91, [.goto 1]),
  (94, [.iload 2, .ireturn])]
def md_Model_reachedFrom : pm_M := ((⟨"QuestionDeskModel", "reachedFrom", "(I)I"⟩, prog_12_method_65_code, 6, some .int), (1, 10), cd_Model_reachedFrom)
def cd_Model_isCovered : List (Nat × List Instr) := [(0, [.iconst 0, .istore 2, .iconst 0, .istore 3]),
  (4, [.iload 3, .aload 0, .getfield 641, .iconst 0, .iaload, .if_icmp .ge 15]),
  (14, [.aload 0, .iload 3, .iload 1, .invokevirtual 196, .istore 4, .iconst 0, .istore 5]),
  (25, [.iload 5, .aload 0, .getfield 641, .iconst 0, .iaload, .if_icmp .ge 10]),
  (36, [.iload 4, .ifCond .eq 8]),
  (41, [.aload 0, .iload 1, .iload 5, .invokevirtual 196, .ifCond .eq 7]),
  (51, [.aload 0, .iload 3, .iload 5, .invokevirtual 196, .ifCond .eq 8]),
  (61, [.iconst 1, .goto 9]),
  (65, [.iconst 0]),
  (66, [.istore 4, .iinc 5 1, .goto 3]),
  (74, [.iload 2, .ifCond .ne 12]),
  (78, [.iload 4, .ifCond .eq 13]),
  (83, [.iconst 1, .goto 14]),
  (87, [.iconst 0]),
  (88, [.istore 2, .iinc 3 1, .goto 1]),
  (95, [.iload 2, .ireturn])]
def md_Model_isCovered : pm_M := ((⟨"QuestionDeskModel", "isCovered", "(I)Z"⟩, prog_12_method_66_code, 6, some .boolean), (1, 10), cd_Model_isCovered)
def cd_Model_killers : List (Nat × List Instr) := [(0, [.aload 0, .iconst 0, .putfield 640, .aload 0, .iload 1, .invokevirtual 198, .ifCond .ne 2]),
  (13, [.iconst (-1), .ireturn]),
  (15, [.iconst 0, .istore 2, .iconst 0, .istore 3]),
  (19, [.iload 3, .aload 0, .getfield 641, .iconst 0, .iaload, .if_icmp .ge 8]),
  (29, [.iload 2, .aload 0, .iload 1, .iload 3, .invokevirtual 229, .ifCond .eq 6]),
  (39, [.iconst 1, .iload 3, .ishl, .goto 7]),
  (45, [.iconst 0]),
  (46, [.ior, .istore 2, .iinc 3 1, .goto 3]),
  (54, [.iload 2, .ireturn])]
def md_Model_killers : pm_M := ((⟨"QuestionDeskModel", "killers", "(I)I"⟩, prog_12_method_70_code, 4, some .int), (1, 10), cd_Model_killers)
def cd_Model_isKiller : List (Nat × List Instr) := [(0, [.aload 0, .iload 1, .invokevirtual 199, .istore 3, .aload 0, .iload 2, .invokevirtual 230, .aload 0, .invokevirtual 201, .iload 3, .if_icmp .eq 2]),
  (19, [.iconst 1, .goto 3]),
  (23, [.iconst 0]),
  (24, [.ireturn])]
def md_Model_isKiller : pm_M := ((⟨"QuestionDeskModel", "isKiller", "(II)Z"⟩, prog_12_method_69_code, 4, some .boolean), (2, 10), cd_Model_isKiller)
def cd_Model_against : List (Nat × List Instr) := [(0, [.aload 0, .getfield 655, .iconst 1, .isub, .istore 2, .aload 0, .iconst 0, .iconst (-1), .iconst (-1), .iload 1, .iconst 0, .invokevirtual 184, .pop, .aload 0, .iconst 1, .iload 2, .iload 2, .iconst 1, .iadd, .iconst 99, .iconst 0, .invokevirtual 184, .pop, .return_])]
def md_Model_against : pm_M := ((⟨"QuestionDeskModel", "against", "(I)V"⟩, prog_12_method_68_code, 3, none), (1, 10), cd_Model_against)
def cd_Model_shields : List (Nat × List Instr) := [(0, [.aload 0, .iconst 0, .putfield 640, .aload 0, .iload 1, .invokevirtual 198, .ifCond .eq 2]),
  (13, [.aload 0, .iload 2, .invokevirtual 218, .ifCond .ne 3]),
  (21, [.iconst (-1), .ireturn]),
  (23, [.aload 0, .iload 1, .iload 2, .invokevirtual 229, .ifCond .ne 5]),
  (32, [.iconst (-3), .ireturn]),
  (35, [.iconst 0, .istore 3, .iconst 0, .istore 4]),
  (40, [.iload 4, .aload 0, .getfield 641, .iconst 0, .iaload, .if_icmp .ge 11]),
  (51, [.aload 0, .iload 1, .invokevirtual 199, .istore 5, .aload 0, .iload 2, .invokevirtual 230, .aload 0, .iload 4, .invokevirtual 230, .iload 3, .aload 0, .invokevirtual 201, .iload 5, .if_icmp .ne 9]),
  (79, [.iconst 1, .iload 4, .ishl, .goto 10]),
  (86, [.iconst 0]),
  (87, [.ior, .istore 3, .iinc 4 1, .goto 6]),
  (95, [.iload 3, .ireturn])]
def md_Model_shields : pm_M := ((⟨"QuestionDeskModel", "shields", "(II)I"⟩, prog_12_method_71_code, 6, some .int), (2, 10), cd_Model_shields)
def cd_Model_tell : List (Nat × List Instr) := [(0, [.aload 0, .iconst 0, .putfield 640, .aload 0, .iload 1, .invokevirtual 198, .ifCond .eq 2]),
  (13, [.iload 2, .invokestatic 169, .ifCond .ne 3]),
  (20, [.iconst (-1), .ireturn]),
  (22, [.iconst 0, .istore 3, .iconst 0, .istore 4]),
  (27, [.iload 4, .aload 0, .getfield 641, .iconst 2, .iaload, .if_icmp .ge 9]),
  (38, [.iload 3, .aload 0, .getfield 641, .iconst 10, .iload 4, .iadd, .iaload, .ifCond .ne 7]),
  (52, [.iconst 1, .iload 4, .ishl, .goto 8]),
  (59, [.iconst 0]),
  (60, [.ior, .istore 3, .iinc 4 1, .goto 4]),
  (68, [.iconst (-4), .istore 4, .iconst 0, .istore 5]),
  (75, [.iload 5, .iconst 1, .aload 0, .getfield 641, .iconst 2, .iaload, .ishl, .if_icmp .ge 19]),
  (88, [.iload 5, .iload 3, .iconst (-1), .ixor, .iand, .ifCond .ne 18]),
  (97, [.iload 4, .ifCond .lt 14]),
  (102, [.iload 5, .invokestatic 233, .iload 4, .invokestatic 233, .if_icmp .ge 18]),
  (115, [.aload 0, .iload 5, .putfield 669, .aload 0, .iload 1, .invokevirtual 199, .iload 2, .if_icmp .ne 16]),
  (130, [.iload 5, .goto 17]),
  (135, [.iload 4]),
  (137, [.istore 4]),
  (139, [.iinc 5 1, .goto 10]),
  (145, [.aload 0, .iconst 0, .putfield 669, .iload 4, .ireturn])]
def md_Model_tell : pm_M := ((⟨"QuestionDeskModel", "tell", "(II)I"⟩, prog_12_method_73_code, 6, some .int), (2, 10), cd_Model_tell)
def cd_Model_ones : List (Nat × List Instr) := [(0, [.iconst 0, .istore 1, .iload 0, .istore 2]),
  (4, [.iload 2, .ifCond .le 3]),
  (8, [.iload 1, .iload 2, .iconst 2, .irem, .iadd, .istore 1, .iload 2, .iconst 2, .idiv, .istore 2, .goto 1]),
  (21, [.iload 1, .ireturn])]
def md_Model_ones : pm_M := ((⟨"QuestionDeskModel", "ones", "(I)I"⟩, prog_12_method_72_code, 3, some .int), (1, 99), cd_Model_ones)
def cd_Model_falseVote : List (Nat × List Instr) := [(0, [.aload 0, .iconst 0, .putfield 640, .aload 0, .iload 1, .invokevirtual 198, .ifCond .ne 2]),
  (13, [.iconst (-1), .ireturn]),
  (15, [.aload 0, .iload 2, .invokevirtual 178, .istore 3, .iload 3, .ifCond .ge 4]),
  (25, [.iload 3, .ireturn]),
  (27, [.aload 0, .getfield 694, .iload 2, .iaload, .iconst 7, .if_icmp .ne 6]),
  (38, [.iconst 1, .goto 7]),
  (42, [.iconst 0]),
  (43, [.istore 4, .iconst 0, .istore 5]),
  (48, [.iload 5, .iconst 7, .if_icmp .ge 15]),
  (55, [.iload 4, .ifCond .eq 15]),
  (60, [.aload 0, .getfield 695, .iconst 120, .iload 2, .imul, .iload 5, .iadd, .laload, .goto_w 0, .lcmp, .ifCond .lt 13]),
  (77, [.aload 0, .getfield 695, .iconst 120, .iload 2, .imul, .iload 5, .iadd, .laload, .goto_w 9, .lcmp, .ifCond .gt 13]),
  (96, [.iconst 1, .goto 14]),
  (100, [.iconst 0]),
  (101, [.istore 4, .iinc 5 1, .goto 8]),
  (109, [.iload 4, .ifCond .ne 17]),
  (114, [.iconst (-13), .ireturn]),
  (117, [.aload 0, .iload 1, .invokevirtual 199, .istore 5, .iconst 0, .istore 6]),
  (127, [.iload 6, .iconst 7, .if_icmp .ge 20]),
  (134, [.aload 0, .getfield 672, .iload 6, .aload 0, .getfield 695, .iconst 120, .iload 2, .imul, .iload 6, .iadd, .laload, .l2i, .iastore, .iinc 6 1, .goto 18]),
  (160, [.iconst 0, .istore 6]),
  (163, [.iload 6, .aload 0, .getfield 641, .iconst 2, .iaload, .if_icmp .ge 25]),
  (174, [.aload 0, .iload 6, .putfield 671, .aload 0, .iload 1, .invokevirtual 199, .istore 7, .aload 0, .iconst (-1), .putfield 671, .aload 0, .getfield 641, .iconst 60, .iconst 7, .iload 6, .imul, .iadd, .iload 7, .iadd, .iaload, .aload 0, .getfield 641, .iconst 60, .iconst 7, .iload 6, .imul, .iadd, .iload 5, .iadd, .iaload, .if_icmp .ge 24]),
  (227, [.iload 6, .ireturn]),
  (230, [.iinc 6 1, .goto 21]),
  (236, [.iconst (-4), .ireturn])]
def md_Model_falseVote : pm_M := ((⟨"QuestionDeskModel", "falseVote", "(II)I"⟩, prog_12_method_74_code, 8, some .int), (2, 10), cd_Model_falseVote)
def cd_Model_chance : List (Nat × List Instr) := [(0, [.aload 0, .iconst 0, .putfield 640, .aload 0, .iload 1, .invokevirtual 198, .ifCond .eq 2]),
  (13, [.iload 2, .invokestatic 169, .ifCond .ne 3]),
  (20, [.goto_w (-1), .lreturn]),
  (24, [.aload 0, .invokevirtual 236, .istore 3, .goto_w 0, .lstore 4, .iconst 0, .istore 6]),
  (35, [.iload 6, .iconst 1, .iload 3, .ishl, .if_icmp .ge 21]),
  (43, [.goto_w 1, .lstore 7, .aload 0, .iconst 0, .putfield 670, .iconst 0, .istore 9]),
  (54, [.iload 9, .iload 3, .if_icmp .ge 17]),
  (60, [.iload 6, .iload 9, .ishr, .iconst 1, .iand, .iconst 1, .if_icmp .ne 9]),
  (71, [.iconst 1, .goto 10]),
  (75, [.iconst 0]),
  (76, [.istore 10, .lload 7, .iload 10, .ifCond .eq 12]),
  (85, [.aload 0, .getfield 641, .iconst 50, .aload 0, .getfield 687, .iload 9, .iaload, .iadd, .iaload, .i2l, .goto 13]),
  (104, [.iconst 100, .aload 0, .getfield 641, .iconst 50, .aload 0, .getfield 687, .iload 9, .iaload, .iadd, .iaload, .isub, .i2l]),
  (123, [.lmul, .lstore 7, .aload 0, .dup, .getfield 670, .iload 10, .ifCond .eq 15]),
  (136, [.iconst 1, .aload 0, .getfield 687, .iload 9, .iaload, .ishl, .goto 16]),
  (148, [.iconst 0]),
  (149, [.ior, .putfield 670, .iinc 9 1, .goto 6]),
  (159, [.lload 4, .aload 0, .iload 1, .invokevirtual 199, .iload 2, .if_icmp .ne 19]),
  (170, [.lload 7, .goto 20]),
  (175, [.goto_w 0]),
  (176, [.ladd, .lstore 4, .iinc 6 1, .goto 4]),
  (185, [.aload 0, .iconst 0, .putfield 670, .lload 4, .lreturn])]
def md_Model_chance : pm_M := ((⟨"QuestionDeskModel", "chance", "(II)J"⟩, prog_12_method_76_code, 11, some .long), (2, 10), cd_Model_chance)
def cd_Model_findUnsure : List (Nat × List Instr) := [(0, [.iconst 0, .istore 1, .iconst 0, .istore 2]),
  (4, [.iload 2, .aload 0, .getfield 641, .iconst 2, .iaload, .if_icmp .ge 6]),
  (14, [.iload 1, .iconst 6, .if_icmp .ge 6]),
  (20, [.aload 0, .getfield 641, .iconst 50, .iload 2, .iadd, .iaload, .ifCond .le 5]),
  (32, [.aload 0, .getfield 687, .iload 1, .iload 2, .iastore, .iinc 1 1]),
  (42, [.iinc 2 1, .goto 1]),
  (48, [.iload 1, .ireturn])]
def md_Model_findUnsure : pm_M := ((⟨"QuestionDeskModel", "findUnsure", "()I"⟩, prog_12_method_75_code, 3, some .int), (0, 10), cd_Model_findUnsure)
def cd_Model_boughtOff : List (Nat × List Instr) := [(0, [.aload 0, .iconst 0, .putfield 640, .aload 0, .iload 1, .invokevirtual 198, .ifCond .eq 2]),
  (13, [.iload 2, .invokestatic 169, .ifCond .ne 3]),
  (20, [.iconst (-1), .ireturn]),
  (22, [.iconst (-4), .istore 3, .aload 0, .iload 2, .putfield 674, .iconst 0, .istore 4]),
  (33, [.iload 4, .iconst 1, .aload 0, .getfield 641, .iconst 2, .iaload, .ishl, .if_icmp .ge 12]),
  (46, [.iload 3, .ifCond .lt 7]),
  (50, [.iload 4, .invokestatic 233, .iload 3, .invokestatic 233, .if_icmp .ge 11]),
  (62, [.aload 0, .iload 4, .putfield 673, .aload 0, .iload 1, .invokevirtual 199, .iload 2, .if_icmp .ne 9]),
  (77, [.iload 4, .goto 10]),
  (82, [.iload 3]),
  (83, [.istore 3]),
  (84, [.iinc 4 1, .goto 4]),
  (90, [.aload 0, .iconst 0, .putfield 673, .iload 3, .ireturn])]
def md_Model_boughtOff : pm_M := ((⟨"QuestionDeskModel", "boughtOff", "(II)I"⟩, prog_12_method_77_code, 5, some .int), (2, 10), cd_Model_boughtOff)
def cd_Model_bestLie : List (Nat × List Instr) := [(0, [.aload 0, .iconst 0, .putfield 640, .aload 0, .iload 1, .invokevirtual 198, .ifCond .eq 3]),
  (13, [.aload 0, .iload 2, .invokevirtual 168, .ifCond .eq 3]),
  (21, [.iload 3, .iconst 0, .iconst 1, .invokestatic 164, .ifCond .ne 4]),
  (30, [.iconst (-1), .ireturn]),
  (32, [.aload 0, .invokevirtual 221, .istore 4, .iconst 0, .istore 5, .iconst (-1), .istore 6, .iconst 0, .istore 7]),
  (47, [.iload 7, .iload 4, .if_icmp .ge 16]),
  (54, [.aload 0, .iload 7, .iload 4, .invokevirtual 222, .iconst 0, .istore 8, .iconst 0, .istore 9]),
  (68, [.iload 9, .iconst 7, .if_icmp .ge 9]),
  (75, [.aload 0, .getfield 672, .iload 9, .iconst 9, .iastore, .iinc 9 1, .goto 7]),
  (90, [.aload 0, .getfield 685, .iconst 1, .isub, .istore 9]),
  (98, [.iload 9, .ifCond .lt 12]),
  (103, [.aload 0, .getfield 672, .aload 0, .getfield 684, .iload 9, .iaload, .iload 9, .iastore, .iconst 8, .iload 8, .imul, .aload 0, .getfield 684, .iload 9, .iaload, .iadd, .istore 8, .iinc 9 (-1), .goto 10]),
  (138, [.aload 0, .iload 2, .putfield 671, .aload 0, .iload 1, .invokevirtual 199, .istore 9, .aload 0, .iconst (-1), .putfield 671, .iload 6, .ifCond .lt 14]),
  (160, [.aload 0, .getfield 641, .iconst 60, .iconst 7, .iload 2, .imul, .iadd, .iload 9, .iadd, .iaload, .aload 0, .getfield 641, .iconst 60, .iconst 7, .iload 2, .imul, .iadd, .iload 6, .iadd, .iaload, .if_icmp .ge 15]),
  (193, [.iload 9, .istore 6, .iload 8, .istore 5]),
  (201, [.iinc 7 1, .goto 5]),
  (207, [.iload 3, .ifCond .ne 18]),
  (211, [.iload 5, .goto 19]),
  (216, [.iload 6]),
  (218, [.ireturn])]
def md_Model_bestLie : pm_M := ((⟨"QuestionDeskModel", "bestLie", "(III)I"⟩, prog_12_method_78_code, 10, some .int), (3, 10), cd_Model_bestLie)
def cd_Model_surely : List (Nat × List Instr) := [(0, [.aload 0, .iconst 0, .putfield 640, .iload 1, .invokestatic 169, .ifCond .eq 3]),
  (12, [.iload 2, .invokestatic 169, .ifCond .eq 3]),
  (19, [.iload 3, .iconst 0, .iconst 1, .invokestatic 164, .ifCond .ne 4]),
  (28, [.iconst (-1), .ireturn]),
  (30, [.aload 0, .invokevirtual 236, .istore 4, .iconst 0, .istore 5, .iconst 0, .istore 6]),
  (42, [.iload 6, .iconst 1, .iload 4, .ishl, .if_icmp .ge 16]),
  (51, [.aload 0, .iconst 0, .putfield 670, .iconst 0, .istore 7]),
  (59, [.iload 7, .iload 4, .if_icmp .ge 12]),
  (66, [.aload 0, .dup, .getfield 670, .iload 6, .iload 7, .ishr, .iconst 1, .iand, .iconst 1, .if_icmp .ne 10]),
  (82, [.iconst 1, .aload 0, .getfield 687, .iload 7, .iaload, .ishl, .goto 11]),
  (94, [.iconst 0]),
  (95, [.ior, .putfield 670, .iinc 7 1, .goto 7]),
  (105, [.iload 5, .aload 0, .iload 1, .iload 2, .invokevirtual 196, .ifCond .eq 14]),
  (116, [.iconst 1, .goto 15]),
  (120, [.iconst 0]),
  (121, [.iadd, .istore 5, .iinc 6 1, .goto 5]),
  (130, [.aload 0, .iconst 0, .putfield 670, .iload 3, .ifCond .ne 20]),
  (139, [.iload 5, .iconst 1, .iload 4, .ishl, .if_icmp .ne 19]),
  (148, [.iconst 1, .goto 23]),
  (152, [.iconst 0, .goto 23]),
  (156, [.iload 5, .ifCond .le 22]),
  (161, [.iconst 1, .goto 23]),
  (165, [.iconst 0]),
  (166, [.ireturn])]
def md_Model_surely : pm_M := ((⟨"QuestionDeskModel", "surely", "(III)I"⟩, prog_12_method_79_code, 8, some .int), (3, 10), cd_Model_surely)
def cd_Model_ring : List (Nat × List Instr) := [(0, [.aload 0, .iconst 0, .putfield 640, .iload 1, .iconst 0, .iconst 6, .invokestatic 164, .ifCond .ne 2]),
  (15, [.iconst (-1), .ireturn]),
  (17, [.iconst 0, .istore 2, .iconst 0, .istore 3]),
  (21, [.iload 3, .aload 0, .getfield 641, .iconst 0, .iaload, .if_icmp .ge 7]),
  (31, [.aload 0, .iload 3, .invokevirtual 226, .iconst 1, .aload 0, .getfield 641, .iconst 0, .iaload, .ishl, .iconst 1, .isub, .if_icmp .ne 6]),
  (49, [.aload 0, .getfield 688, .iload 2, .iload 3, .iastore, .iinc 2 1]),
  (59, [.iinc 3 1, .goto 3]),
  (65, [.iload 2, .iconst 3, .if_icmp .lt 10]),
  (70, [.iload 1, .iload 2, .if_icmp .ge 10]),
  (75, [.aload 0, .iload 2, .invokevirtual 241, .ifCond .ne 11]),
  (83, [.iconst (-4), .goto 12]),
  (88, [.aload 0, .getfield 689, .iload 1, .iaload]),
  (94, [.ireturn])]
def md_Model_ring : pm_M := ((⟨"QuestionDeskModel", "ring", "(I)I"⟩, prog_12_method_81_code, 4, some .int), (1, 10), cd_Model_ring)
def cd_Model_findRing : List (Nat × List Instr) := [(0, [.iconst 1, .istore 2, .iconst 1, .istore 3]),
  (4, [.iload 3, .iload 1, .if_icmp .ge 3]),
  (9, [.iload 2, .iload 1, .imul, .istore 2, .iinc 3 1, .goto 1]),
  (19, [.iconst 0, .istore 3]),
  (21, [.iload 3, .iload 2, .if_icmp .ge 19]),
  (26, [.iload 3, .istore 4, .iconst 1, .istore 5, .iconst 1, .istore 6, .aload 0, .getfield 689, .iconst 0, .aload 0, .getfield 688, .iconst 0, .iaload, .iastore, .iload 1, .iconst 1, .isub, .istore 7]),
  (52, [.iload 7, .ifCond .le 12]),
  (57, [.iload 4, .iload 1, .irem, .istore 8, .iload 4, .iload 1, .idiv, .istore 4, .iload 6, .ifCond .eq 10]),
  (74, [.iload 5, .iload 8, .ishr, .iconst 1, .iand, .ifCond .ne 10]),
  (84, [.iconst 1, .goto 11]),
  (88, [.iconst 0]),
  (89, [.istore 6, .iload 5, .iconst 1, .iload 8, .ishl, .ior, .istore 5, .aload 0, .getfield 689, .iload 7, .aload 0, .getfield 688, .iload 8, .iaload, .iastore, .iinc 7 (-1), .goto 6]),
  (120, [.iconst 0, .istore 7]),
  (123, [.iload 7, .iload 1, .if_icmp .ge 16]),
  (129, [.iload 6, .ifCond .eq 16]),
  (134, [.aload 0, .aload 0, .getfield 689, .iload 7, .iaload, .aload 0, .getfield 689, .iload 7, .iconst 1, .iadd, .iload 1, .irem, .iaload, .invokevirtual 196, .istore 6, .iinc 7 1, .goto 13]),
  (164, [.iload 6, .ifCond .eq 18]),
  (169, [.iconst 1, .ireturn]),
  (171, [.iinc 3 1, .goto 4]),
  (177, [.iconst 0, .ireturn])]
def md_Model_findRing : pm_M := ((⟨"QuestionDeskModel", "findRing", "(I)Z"⟩, prog_12_method_80_code, 9, some .boolean), (1, 10), cd_Model_findRing)
def cd_Model_usual : List (Nat × List Instr) := [(0, [.aload 0, .iconst 0, .putfield 640, .aload 0, .iload 1, .invokevirtual 178, .istore 2, .iload 2, .ifCond .ge 2]),
  (15, [.iload 2, .ireturn]),
  (17, [.aload 0, .getfield 694, .iload 1, .iaload, .aload 0, .getfield 641, .iconst 0, .iaload, .if_icmp .ge 4]),
  (32, [.iconst (-13), .ireturn]),
  (35, [.iconst 0, .istore 3, .iconst 1, .istore 4, .iconst 0, .istore 5]),
  (43, [.iload 5, .aload 0, .getfield 641, .iconst 0, .iaload, .if_icmp .ge 21]),
  (54, [.iconst 0, .istore 6]),
  (57, [.iload 6, .aload 0, .getfield 641, .iconst 0, .iaload, .if_icmp .ge 20]),
  (68, [.iconst 0, .istore 7, .iconst 0, .istore 8]),
  (74, [.iload 8, .aload 0, .getfield 641, .iconst 0, .iaload, .if_icmp .ge 16]),
  (85, [.aload 0, .getfield 695, .iconst 120, .iload 1, .imul, .iload 8, .iadd, .laload, .lstore 9, .aload 0, .getfield 695, .iconst 120, .iload 1, .imul, .iload 6, .iadd, .laload, .lstore 11, .iload 7, .lload 9, .lload 11, .lcmp, .ifCond .gt 13]),
  (123, [.lload 9, .lload 11, .lcmp, .ifCond .ne 14]),
  (131, [.iload 8, .iload 6, .if_icmp .ge 14]),
  (138, [.iconst 1, .goto 15]),
  (142, [.iconst 0]),
  (143, [.iadd, .istore 7, .iinc 8 1, .goto 9]),
  (152, [.iload 3, .iload 7, .iload 5, .if_icmp .ne 18]),
  (160, [.iload 6, .iload 4, .imul, .goto 19]),
  (168, [.iconst 0]),
  (169, [.iadd, .istore 3, .iinc 6 1, .goto 7]),
  (177, [.iload 4, .iconst 8, .imul, .istore 4, .iinc 5 1, .goto 5]),
  (190, [.iload 3, .ireturn])]
def md_Model_usual : pm_M := ((⟨"QuestionDeskModel", "usual", "(I)I"⟩, prog_12_method_82_code, 13, some .int), (1, 10), cd_Model_usual)
def cd_Model_breach : List (Nat × List Instr) := [(0, [.aload 0, .iconst 0, .putfield 640, .aload 0, .iload 1, .invokevirtual 198, .ifCond .eq 3]),
  (13, [.iload 2, .iconst 0, .iconst 2, .invokestatic 164, .ifCond .eq 3]),
  (22, [.iload 3, .iconst 1, .iconst 3, .invokestatic 164, .ifCond .ne 4]),
  (31, [.iconst (-1), .ireturn]),
  (33, [.iconst 0, .istore 5]),
  (36, [.iload 5, .aload 0, .getfield 644, .iload 1, .iaload, .if_icmp .ge 12]),
  (47, [.aload 0, .getfield 646, .iconst 100, .iload 1, .imul, .iload 5, .iadd, .iaload, .istore 6, .iload 6, .iconst 1, .if_icmp .eq 11]),
  (67, [.aload 0, .getfield 649, .iconst 100, .iload 1, .imul, .iload 5, .iadd, .iaload, .iconst 2, .if_icmp .gt 10]),
  (83, [.iload 6, .iconst 2, .if_icmp .ne 11]),
  (89, [.aload 0, .getfield 650, .iconst 100, .iload 1, .imul, .iload 5, .iadd, .iaload, .iconst 2, .if_icmp .le 11]),
  (105, [.iconst (-3), .ireturn]),
  (108, [.iinc 5 1, .goto 5]),
  (114, [.iload 3, .iconst 1, .if_icmp .ne 14]),
  (119, [.iconst 6, .goto 17]),
  (124, [.iload 3, .iconst 2, .if_icmp .ne 16]),
  (129, [.iconst 36, .goto 17]),
  (134, [.iconst 216]),
  (137, [.istore 5, .iconst (-4), .istore 6, .aload 0, .iload 3, .putfield 675, .aload 0, .iload 4, .ifCond .eq 19]),
  (154, [.iconst 1, .goto 20]),
  (158, [.iconst 0]),
  (159, [.putfield 668, .iconst 0, .istore 7]),
  (165, [.iload 7, .iload 5, .if_icmp .ge 27]),
  (172, [.iload 6, .ifCond .ge 27]),
  (177, [.aload 0, .iload 7, .invokevirtual 244, .aload 0, .iload 1, .iload 2, .invokevirtual 245, .ifCond .eq 25]),
  (192, [.iload 7, .goto 26]),
  (197, [.iload 6]),
  (199, [.istore 6, .iinc 7 1, .goto 21]),
  (207, [.aload 0, .iconst 0, .putfield 675, .aload 0, .iconst (-1), .putfield 668, .iload 6, .ireturn])]
def md_Model_breach : pm_M := ((⟨"QuestionDeskModel", "breach", "(IIIZ)I"⟩, prog_12_method_86_code, 8, some .int), (4, 10), cd_Model_breach)
def cd_Model_findChamber : List (Nat × List Instr) := [(0, [.iload 1, .istore 2, .aload 0, .getfield 675, .iconst 1, .isub, .istore 3]),
  (9, [.iload 3, .ifCond .lt 3]),
  (13, [.aload 0, .getfield 676, .iload 3, .iload 2, .iconst 6, .irem, .iastore, .iload 2, .iconst 6, .idiv, .istore 2, .iinc 3 (-1), .goto 1]),
  (34, [.return_])]
def md_Model_findChamber : pm_M := ((⟨"QuestionDeskModel", "findChamber", "(I)V"⟩, prog_12_method_83_code, 4, none), (1, 10), cd_Model_findChamber)
def cd_Model_breaks : List (Nat × List Instr) := [(0, [.aload 0, .iload 1, .invokevirtual 199, .istore 3, .iload 2, .ifCond .ne 16]),
  (10, [.iconst 0, .istore 4]),
  (13, [.iload 4, .iconst 3, .if_icmp .ge 15]),
  (19, [.iconst 1, .istore 5, .iconst 0, .istore 6]),
  (25, [.iload 6, .iconst 3, .if_icmp .ge 11]),
  (31, [.iload 5, .ifCond .eq 9]),
  (36, [.iload 4, .iload 6, .if_icmp .eq 8]),
  (43, [.aload 0, .iload 4, .iload 6, .invokevirtual 196, .ifCond .eq 9]),
  (54, [.iconst 1, .goto 10]),
  (58, [.iconst 0]),
  (59, [.istore 5, .iinc 6 1, .goto 4]),
  (67, [.iload 5, .ifCond .eq 14]),
  (72, [.iload 4, .iload 3, .if_icmp .eq 14]),
  (78, [.iconst 1, .ireturn]),
  (80, [.iinc 4 1, .goto 2]),
  (86, [.iconst 0, .ireturn]),
  (88, [.iconst 0, .istore 4, .iconst 0, .istore 5]),
  (94, [.iload 5, .aload 0, .getfield 675, .if_icmp .ge 34]),
  (103, [.iload 4, .ifCond .ne 34]),
  (108, [.aload 0, .getfield 676, .iload 5, .iaload, .istore 6, .iload 6, .iload 3, .invokestatic 191, .istore 7, .iload 2, .iconst 1, .if_icmp .ne 25]),
  (130, [.iload 7, .ifCond .le 25]),
  (135, [.aload 0, .getfield 676, .iload 5, .iload 6, .iload 7, .invokestatic 246, .iastore, .aload 0, .iload 1, .invokevirtual 199, .iload 3, .if_icmp .eq 23]),
  (158, [.iconst 1, .goto 24]),
  (162, [.iconst 0]),
  (163, [.istore 4]),
  (165, [.iconst 0, .istore 8]),
  (168, [.iload 8, .iconst 6, .if_icmp .ge 33]),
  (175, [.iload 2, .iconst 2, .if_icmp .ne 33]),
  (180, [.iload 4, .ifCond .ne 33]),
  (185, [.aload 0, .getfield 676, .iload 5, .iload 8, .iastore, .iload 6, .aload 0, .iload 1, .invokevirtual 199, .invokestatic 191, .iload 7, .if_icmp .ge 31]),
  (209, [.iconst 1, .goto 32]),
  (213, [.iconst 0]),
  (214, [.istore 4, .iinc 8 1, .goto 26]),
  (222, [.aload 0, .getfield 676, .iload 5, .iload 6, .iastore, .iinc 5 1, .goto 17]),
  (237, [.iload 4, .ireturn])]
def md_Model_breaks : pm_M := ((⟨"QuestionDeskModel", "breaks", "(II)Z"⟩, prog_12_method_85_code, 9, some .boolean), (2, 10), cd_Model_breaks)
def cd_Model_lifted : List (Nat × List Instr) := [(0, [.iload 0, .iconst 0, .invokestatic 192, .istore 2, .iload 0, .iconst 1, .invokestatic 192, .istore 3, .iload 0, .iconst 2, .invokestatic 192, .istore 4, .iload 1, .iconst 1, .if_icmp .ne 2]),
  (24, [.iload 3, .goto 3]),
  (28, [.iload 2]),
  (29, [.istore 5, .iload 1, .iconst 1, .if_icmp .ne 5]),
  (36, [.iload 2, .goto 6]),
  (40, [.iload 4]),
  (42, [.istore 6, .iload 1, .iconst 1, .if_icmp .ne 8]),
  (49, [.iload 4, .goto 9]),
  (54, [.iload 3]),
  (55, [.istore 7, .iconst 2, .iload 5, .imul, .iload 6, .iload 7, .if_icmp .ge 11]),
  (68, [.iconst 0, .goto 12]),
  (72, [.iconst 1]),
  (73, [.iadd, .ireturn])]
def md_Model_lifted : pm_M := ((⟨"QuestionDeskModel", "lifted", "(II)I"⟩, prog_12_method_84_code, 8, some .int), (2, 99), cd_Model_lifted)
def cd_Model_finds : List (Nat × List Instr) := [(0, [.aload 0, .iconst 0, .putfield 640, .aload 0, .iload 1, .invokevirtual 198, .ifCond .eq 2]),
  (13, [.iload 2, .invokestatic 169, .ifCond .ne 3]),
  (20, [.iconst (-1), .ireturn]),
  (22, [.aload 0, .iconst 0, .putfield 668, .aload 0, .iload 1, .invokevirtual 199, .iload 2, .if_icmp .ne 5]),
  (36, [.iconst 1, .goto 6]),
  (40, [.iconst 0]),
  (41, [.istore 3, .aload 0, .iconst 1, .putfield 668, .iload 3, .aload 0, .iload 1, .invokevirtual 199, .iload 2, .if_icmp .ne 8]),
  (57, [.iconst 2, .goto 9]),
  (61, [.iconst 0]),
  (62, [.iadd, .istore 3, .aload 0, .iconst (-1), .putfield 668, .iload 3, .ireturn])]
def md_Model_finds : pm_M := ((⟨"QuestionDeskModel", "finds", "(II)I"⟩, prog_12_method_87_code, 4, some .int), (2, 10), cd_Model_finds)
def cd_Model_image : List (Nat × List Instr) := [(0, [.aload 0, .iconst 0, .putfield 640, .aload 0, .iconst 1, .putfield 643, .iconst 0, .istore 1]),
  (12, [.iload 1, .iconst 200, .if_icmp .ge 3]),
  (19, [.aload 0, .getfield 642, .iload 1, .aload 0, .getfield 641, .iload 1, .iaload, .iastore, .iinc 1 1, .goto 1]),
  (37, [.aload 0, .getfield 641, .iconst 2, .iaload, .ireturn])]
def md_Model_image : pm_M := ((⟨"QuestionDeskModel", "image", "()I"⟩, prog_12_method_88_code, 2, some .int), (0, 10), cd_Model_image)
def cd_Model_restore : List (Nat × List Instr) := [(0, [.aload 0, .iconst 0, .putfield 640, .aload 0, .getfield 643, .ifCond .ne 2]),
  (12, [.iconst (-3), .ireturn]),
  (15, [.iconst 0, .istore 1]),
  (17, [.iload 1, .iconst 200, .if_icmp .ge 5]),
  (24, [.aload 0, .getfield 641, .iload 1, .aload 0, .getfield 642, .iload 1, .iaload, .iastore, .iinc 1 1, .goto 3]),
  (42, [.aload 0, .getfield 641, .iconst 2, .iaload, .ireturn])]
def md_Model_restore : pm_M := ((⟨"QuestionDeskModel", "restore", "()I"⟩, prog_12_method_89_code, 2, some .int), (0, 10), cd_Model_restore)
def cd_Model_count : List (Nat × List Instr) := [(0, [.aload 0, .iconst 0, .putfield 640, .iconst 0, .istore 2, .iload 1, .tableswitch 17 0 6 #[1, 2, 3, 4, 8, 9, 13]]),
  (52, [.aload 0, .getfield 641, .iconst 0, .iaload, .ireturn]),
  (59, [.aload 0, .getfield 641, .iconst 1, .iaload, .ireturn]),
  (66, [.aload 0, .getfield 641, .iconst 2, .iaload, .ireturn]),
  (73, [.iconst 0, .istore 3]),
  (75, [.iload 3, .aload 0, .getfield 641, .iconst 2, .iaload, .if_icmp .ge 7]),
  (85, [.iload 2, .aload 0, .getfield 641, .iconst 20, .iload 3, .iadd, .iaload, .iadd, .istore 2, .iinc 3 1, .goto 5]),
  (103, [.iload 2, .ireturn]),
  (105, [.aload 0, .getfield 641, .iconst 3, .iaload, .ireturn]),
  (112, [.iconst 0, .istore 3]),
  (114, [.iload 3, .aload 0, .getfield 641, .iconst 3, .iaload, .if_icmp .ge 12]),
  (124, [.iload 2, .aload 0, .getfield 645, .iload 3, .iaload, .iadd, .istore 2, .iinc 3 1, .goto 10]),
  (139, [.iload 2, .ireturn]),
  (141, [.iconst 0, .istore 3]),
  (143, [.iload 3, .aload 0, .getfield 641, .iconst 2, .iaload, .if_icmp .ge 16]),
  (153, [.iload 2, .aload 0, .iload 3, .invokevirtual 176, .iadd, .istore 2, .iinc 3 1, .goto 14]),
  (167, [.iload 2, .ireturn]),
  (169, [.iconst (-1), .ireturn])]
def md_Model_count : pm_M := ((⟨"QuestionDeskModel", "count", "(I)I"⟩, prog_12_method_90_code, 4, some .int), (1, 10), cd_Model_count)
def cd_Model_keep : List (Nat × List Instr) := [(0, [.aload 0, .iconst 0, .putfield 640, .iload 1, .iconst 0, .iconst 7, .invokestatic 164, .ifCond .eq 4]),
  (15, [.iload 2, .iconst 0, .iconst 1, .invokestatic 164, .ifCond .eq 4]),
  (24, [.iload 2, .iconst 1, .if_icmp .ne 5]),
  (29, [.aload 0, .iload 3, .invokevirtual 168, .ifCond .ne 5]),
  (37, [.iconst (-1), .ireturn]),
  (39, [.aload 0, .getfield 690, .iload 1, .iload 2, .iastore, .iload 2, .iconst 1, .if_icmp .ne 7]),
  (51, [.aload 0, .getfield 691, .iload 1, .aload 0, .iload 3, .invokevirtual 176, .iastore, .aload 0, .getfield 692, .iload 1, .aload 0, .iload 3, .invokevirtual 252, .iastore]),
  (73, [.iconst 0, .ireturn])]
def md_Model_keep : pm_M := ((⟨"QuestionDeskModel", "keep", "(III)I"⟩, prog_12_method_92_code, 4, some .int), (3, 10), cd_Model_keep)
def cd_Model_failureOf : List (Nat × List Instr) := [(0, [.aload 0, .getfield 641, .iconst 10, .iload 1, .iadd, .iaload, .tableswitch 7 3 5 #[1, 2, 3]]),
  (36, [.iconst (-15), .ireturn]),
  (39, [.iconst 100, .aload 0, .getfield 641, .iconst 40, .iload 1, .iadd, .iaload, .iadd, .iload 1, .iadd, .ireturn]),
  (54, [.aload 0, .getfield 641, .iconst 20, .iload 1, .iadd, .iaload, .iconst 1, .if_icmp .ne 5]),
  (67, [.iconst (-15), .goto 6]),
  (72, [.iload 1]),
  (73, [.ireturn]),
  (74, [.iload 1, .ireturn])]
def md_Model_failureOf : pm_M := ((⟨"QuestionDeskModel", "failureOf", "(I)I"⟩, prog_12_method_91_code, 2, some .int), (1, 10), cd_Model_failureOf)
def cd_Model_row : List (Nat × List Instr) := [(0, [.aload 0, .iconst 0, .putfield 640, .iload 1, .iconst 0, .iconst 7, .invokestatic 164, .ifCond .eq 3]),
  (15, [.iload 2, .iconst 0, .iconst 2, .invokestatic 164, .ifCond .eq 3]),
  (24, [.iload 3, .iconst 120, .if_icmp .le 4]),
  (30, [.iconst (-1), .ireturn]),
  (32, [.iload 3, .ifCond .ge 6]),
  (36, [.iconst (-14), .ireturn]),
  (39, [.aload 0, .getfield 690, .iload 1, .iconst 2, .iastore, .aload 0, .getfield 693, .iload 1, .iload 2, .iastore, .aload 0, .getfield 694, .iload 1, .iload 3, .iastore, .iconst 0, .istore 4]),
  (63, [.iload 4, .iconst 120, .if_icmp .ge 9]),
  (70, [.aload 0, .getfield 695, .iconst 120, .iload 1, .imul, .iload 4, .iadd, .goto_w 0, .lastore, .iinc 4 1, .goto 7]),
  (89, [.iconst 0, .ireturn])]
def md_Model_row : pm_M := ((⟨"QuestionDeskModel", "row", "(III)I"⟩, prog_12_method_93_code, 5, some .int), (3, 10), cd_Model_row)
def cd_Model_put : List (Nat × List Instr) := [(0, [.aload 0, .iconst 0, .putfield 640, .aload 0, .iload 1, .invokevirtual 255, .istore 4, .iload 4, .ifCond .ge 2]),
  (17, [.iload 4, .ireturn]),
  (20, [.iload 2, .iconst 0, .aload 0, .getfield 694, .iload 1, .iaload, .iconst 1, .isub, .invokestatic 164, .ifCond .ne 4]),
  (36, [.iconst (-13), .ireturn]),
  (39, [.aload 0, .getfield 695, .iconst 120, .iload 1, .imul, .iload 2, .iadd, .iload 3, .aload 0, .getfield 693, .iload 1, .iaload, .invokestatic 256, .lastore, .iconst 0, .ireturn])]
def md_Model_put : pm_M := ((⟨"QuestionDeskModel", "put", "(III)I"⟩, prog_12_method_96_code, 5, some .int), (3, 10), cd_Model_put)
def cd_Model_wrongRow : List (Nat × List Instr) := [(0, [.iload 1, .iconst 0, .iconst 7, .invokestatic 164, .ifCond .ne 2]),
  (10, [.iconst (-1), .goto 7]),
  (14, [.aload 0, .getfield 690, .iload 1, .iaload, .ifCond .ne 4]),
  (23, [.iconst (-11), .goto 7]),
  (28, [.aload 0, .getfield 690, .iload 1, .iaload, .iconst 2, .if_icmp .eq 6]),
  (38, [.iconst (-12), .goto 7]),
  (43, [.iconst 0]),
  (44, [.ireturn])]
def md_Model_wrongRow : pm_M := ((⟨"QuestionDeskModel", "wrongRow", "(I)I"⟩, prog_12_method_94_code, 2, some .int), (1, 10), cd_Model_wrongRow)
def cd_Model_narrowed : List (Nat × List Instr) := [(0, [.iload 1, .ifCond .ne 2]),
  (4, [.iload 0, .i2b, .i2l, .goto 5]),
  (10, [.iload 1, .iconst 1, .if_icmp .ne 4]),
  (15, [.iload 0, .i2s, .i2l, .goto 5]),
  (21, [.iload 0, .i2l]),
  (23, [.lreturn])]
def md_Model_narrowed : pm_M := ((⟨"QuestionDeskModel", "narrowed", "(II)J"⟩, prog_12_method_95_code, 2, some .long), (2, 99), cd_Model_narrowed)
def cd_Model_element : List (Nat × List Instr) := [(0, [.aload 0, .iload 1, .invokevirtual 255, .istore 3, .aload 0, .iload 3, .iconst (-1), .if_icmp .ne 2]),
  (12, [.iconst 1, .goto 6]),
  (16, [.iload 3, .ifCond .lt 4]),
  (20, [.iload 2, .iconst 0, .aload 0, .getfield 694, .iload 1, .iaload, .iconst 1, .isub, .invokestatic 164, .ifCond .ne 5]),
  (36, [.iconst 2, .goto 6]),
  (40, [.iconst 0]),
  (41, [.putfield 640, .aload 0, .getfield 640, .ifCond .le 8]),
  (51, [.goto_w 0, .goto 9]),
  (55, [.aload 0, .getfield 695, .iconst 120, .iload 1, .imul, .iload 2, .iadd, .laload]),
  (66, [.lreturn])]
def md_Model_element : pm_M := ((⟨"QuestionDeskModel", "element", "(II)J"⟩, prog_12_method_97_code, 4, some .long), (2, 10), cd_Model_element)
def cd_Model_copy : List (Nat × List Instr) := [(0, [.aload 0, .iconst 0, .putfield 640, .iload 1, .iconst 0, .iconst 7, .invokestatic 164, .ifCond .eq 2]),
  (15, [.iload 3, .iconst 0, .iconst 7, .invokestatic 164, .ifCond .ne 3]),
  (25, [.iconst (-1), .ireturn]),
  (27, [.aload 0, .getfield 690, .iload 1, .iaload, .ifCond .eq 5]),
  (36, [.aload 0, .getfield 690, .iload 3, .iaload, .ifCond .ne 6]),
  (45, [.iconst (-11), .ireturn]),
  (48, [.aload 0, .getfield 690, .iload 1, .iaload, .iconst 2, .if_icmp .ne 9]),
  (58, [.aload 0, .getfield 690, .iload 3, .iaload, .iconst 2, .if_icmp .ne 9]),
  (68, [.aload 0, .getfield 693, .iload 1, .iaload, .aload 0, .getfield 693, .iload 3, .iaload, .if_icmp .eq 10]),
  (83, [.iconst (-12), .ireturn]),
  (86, [.iload 5, .ifCond .lt 15]),
  (91, [.iload 2, .ifCond .lt 15]),
  (95, [.iload 4, .ifCond .lt 15]),
  (100, [.iload 2, .aload 0, .getfield 694, .iload 1, .iaload, .iload 5, .isub, .if_icmp .gt 15]),
  (113, [.iload 4, .aload 0, .getfield 694, .iload 3, .iaload, .iload 5, .isub, .if_icmp .le 16]),
  (127, [.iconst (-13), .ireturn]),
  (130, [.iconst 0, .istore 6]),
  (133, [.iload 6, .iload 5, .if_icmp .ge 19]),
  (140, [.aload 0, .getfield 696, .iload 6, .aload 0, .getfield 695, .iconst 120, .iload 1, .imul, .iload 2, .iadd, .iload 6, .iadd, .laload, .lastore, .iinc 6 1, .goto 17]),
  (167, [.iconst 0, .istore 6]),
  (170, [.iload 6, .iload 5, .if_icmp .ge 22]),
  (177, [.aload 0, .getfield 695, .iconst 120, .iload 3, .imul, .iload 4, .iadd, .iload 6, .iadd, .aload 0, .getfield 696, .iload 6, .laload, .lastore, .iinc 6 1, .goto 20]),
  (205, [.iload 5, .ireturn])]
def md_Model_copy : pm_M := ((⟨"QuestionDeskModel", "copy", "(IIIII)I"⟩, prog_12_method_98_code, 7, some .int), (5, 10), cd_Model_copy)
def cd_Model_heft : List (Nat × List Instr) := [(0, [.aload 0, .iconst 0, .putfield 640, .aload 0, .iload 1, .invokevirtual 260, .istore 2, .iload 2, .ifCond .ge 2]),
  (15, [.iload 2, .goto 3]),
  (19, [.aload 0, .getfield 691, .iload 1, .iaload]),
  (25, [.ireturn])]
def md_Model_heft : pm_M := ((⟨"QuestionDeskModel", "heft", "(I)I"⟩, prog_12_method_100_code, 3, some .int), (1, 10), cd_Model_heft)
def cd_Model_wrongShelf : List (Nat × List Instr) := [(0, [.iload 1, .iconst 0, .iconst 7, .invokestatic 164, .ifCond .ne 2]),
  (10, [.iconst (-1), .goto 7]),
  (14, [.aload 0, .getfield 690, .iload 1, .iaload, .ifCond .ne 4]),
  (23, [.iconst (-11), .goto 7]),
  (28, [.aload 0, .getfield 690, .iload 1, .iaload, .iconst 2, .if_icmp .ne 6]),
  (38, [.iconst (-12), .goto 7]),
  (43, [.iconst 0]),
  (44, [.ireturn])]
def md_Model_wrongShelf : pm_M := ((⟨"QuestionDeskModel", "wrongShelf", "(I)I"⟩, prog_12_method_99_code, 2, some .int), (1, 10), cd_Model_wrongShelf)
def cd_Model_toss : List (Nat × List Instr) := [(0, [.aload 0, .iconst 0, .putfield 640, .aload 0, .iload 1, .invokevirtual 260, .istore 2, .iload 2, .ifCond .ge 2]),
  (15, [.iload 2, .goto 3]),
  (19, [.aload 0, .getfield 692, .iload 1, .iaload]),
  (25, [.ireturn])]
def md_Model_toss : pm_M := ((⟨"QuestionDeskModel", "toss", "(I)I"⟩, prog_12_method_101_code, 3, some .int), (1, 10), cd_Model_toss)
def cd_Law_element : List (Nat × List Instr) := []
def md_Law_element : pm_M := ((⟨"QuestionDeskLaw", "element", "(LQuestionDesk;II[J)I"⟩, method_3_code, 5, some .int), (4, 99), cd_Law_element)
def cd_law : List (Nat × List Instr) := [(0, [.new 9, .dup, .invokespecial 106, .astore 1, .new 10, .dup, .invokespecial 161, .astore 2, .iconst 1, .newarray .long, .astore 3, .iconst 0, .istore 4]),
  (23, [.iload 4, .aload 0, .arraylength, .iconst 6, .isub, .if_icmp .gt 124]),
  (33, [.aload 0, .iload 4, .iaload, .iconst 63, .iand, .tableswitch 123 0 45 #[3, 5, 7, 9, 11, 13, 15, 17, 19, 21, 23, 25, 27, 29, 31, 33, 35, 37, 39, 41, 49, 57, 65, 67, 69, 71, 73, 75, 77, 79, 81, 83, 85, 87, 89, 97, 99, 101, 103, 105, 107, 109, 111, 117, 119, 121]]),
  (240, [.aload 1, .aload 0, .iload 4, .iconst 1, .iadd, .iaload, .aload 0, .iload 4, .iconst 2, .iadd, .iaload, .invokevirtual 107, .aload 2, .aload 0, .iload 4, .iconst 1, .iadd, .iaload, .aload 0, .iload 4, .iconst 2, .iadd, .iaload, .invokevirtual 163, .if_icmp .eq 123]),
  (275, [.iconst 0, .ireturn]),
  (277, [.aload 1, .aload 0, .iload 4, .iconst 1, .iadd, .iaload, .aload 0, .iload 4, .iconst 2, .iadd, .iaload, .invokevirtual 109, .aload 2, .aload 0, .iload 4, .iconst 1, .iadd, .iaload, .aload 0, .iload 4, .iconst 2, .iadd, .iaload, .invokevirtual 165, .if_icmp .eq 123]),
  (312, [.iconst 0, .ireturn]),
  (314, [.aload 1, .aload 0, .iload 4, .iconst 1, .iadd, .iaload, .aload 0, .iload 4, .iconst 2, .iadd, .iaload, .invokevirtual 111, .aload 2, .aload 0, .iload 4, .iconst 1, .iadd, .iaload, .aload 0, .iload 4, .iconst 2, .iadd, .iaload, .invokevirtual 167, .if_icmp .eq 123]),
  (349, [.iconst 0, .ireturn]),
  (351, [.aload 1, .aload 0, .iload 4, .iconst 1, .iadd, .iaload, .aload 0, .iload 4, .iconst 2, .iadd, .iaload, .invokevirtual 113, .aload 2, .aload 0, .iload 4, .iconst 1, .iadd, .iaload, .aload 0, .iload 4, .iconst 2, .iadd, .iaload, .invokevirtual 170, .if_icmp .eq 123]),
  (386, [.iconst 0, .ireturn]),
  (388, [.aload 1, .aload 0, .iload 4, .iconst 1, .iadd, .iaload, .aload 0, .iload 4, .iconst 2, .iadd, .iaload, .aload 0, .iload 4, .iconst 3, .iadd, .iaload, .invokevirtual 114, .aload 2, .aload 0, .iload 4, .iconst 1, .iadd, .iaload, .aload 0, .iload 4, .iconst 2, .iadd, .iaload, .aload 0, .iload 4, .iconst 3, .iadd, .iaload, .invokevirtual 171, .if_icmp .eq 123]),
  (435, [.iconst 0, .ireturn]),
  (437, [.aload 1, .aload 0, .iload 4, .iconst 1, .iadd, .iaload, .aload 0, .iload 4, .iconst 2, .iadd, .iaload, .aload 0, .iload 4, .iconst 3, .iadd, .iaload, .invokevirtual 116, .aload 2, .aload 0, .iload 4, .iconst 1, .iadd, .iaload, .aload 0, .iload 4, .iconst 2, .iadd, .iaload, .aload 0, .iload 4, .iconst 3, .iadd, .iaload, .invokevirtual 173, .if_icmp .eq 123]),
  (484, [.iconst 0, .ireturn]),
  (486, [.aload 1, .aload 0, .iload 4, .iconst 1, .iadd, .iaload, .aload 0, .iload 4, .iconst 2, .iadd, .iaload, .invokevirtual 117, .aload 2, .aload 0, .iload 4, .iconst 1, .iadd, .iaload, .aload 0, .iload 4, .iconst 2, .iadd, .iaload, .invokevirtual 174, .if_icmp .eq 123]),
  (521, [.iconst 0, .ireturn]),
  (523, [.aload 1, .aload 0, .iload 4, .iconst 1, .iadd, .iaload, .aload 0, .iload 4, .iconst 2, .iadd, .iaload, .invokevirtual 118, .aload 2, .aload 0, .iload 4, .iconst 1, .iadd, .iaload, .aload 0, .iload 4, .iconst 2, .iadd, .iaload, .invokevirtual 175, .if_icmp .eq 123]),
  (558, [.iconst 0, .ireturn]),
  (560, [.aload 1, .aload 0, .iload 4, .iconst 1, .iadd, .iaload, .invokevirtual 119, .aload 2, .aload 0, .iload 4, .iconst 1, .iadd, .iaload, .invokevirtual 177, .if_icmp .eq 123]),
  (583, [.iconst 0, .ireturn]),
  (585, [.aload 1, .aload 0, .iload 4, .iconst 1, .iadd, .iaload, .invokevirtual 122, .aload 2, .aload 0, .iload 4, .iconst 1, .iadd, .iaload, .invokevirtual 186, .if_icmp .eq 123]),
  (608, [.iconst 0, .ireturn]),
  (610, [.aload 1, .aload 0, .iload 4, .iconst 1, .iadd, .iaload, .aload 0, .iload 4, .iconst 2, .iadd, .iaload, .invokevirtual 123, .aload 2, .aload 0, .iload 4, .iconst 1, .iadd, .iaload, .aload 0, .iload 4, .iconst 2, .iadd, .iaload, .invokevirtual 197, .if_icmp .eq 123]),
  (645, [.iconst 0, .ireturn]),
  (647, [.aload 1, .aload 0, .iload 4, .iconst 1, .iadd, .iaload, .aload 0, .iload 4, .iconst 2, .iadd, .iaload, .invokevirtual 124, .aload 2, .aload 0, .iload 4, .iconst 1, .iadd, .iaload, .aload 0, .iload 4, .iconst 2, .iadd, .iaload, .invokevirtual 187, .if_icmp .eq 123]),
  (682, [.iconst 0, .ireturn]),
  (684, [.aload 1, .aload 0, .iload 4, .iconst 1, .iadd, .iaload, .aload 0, .iload 4, .iconst 2, .iadd, .iaload, .invokevirtual 125, .aload 2, .aload 0, .iload 4, .iconst 1, .iadd, .iaload, .aload 0, .iload 4, .iconst 2, .iadd, .iaload, .invokevirtual 194, .if_icmp .eq 123]),
  (719, [.iconst 0, .ireturn]),
  (721, [.aload 1, .aload 0, .iload 4, .iconst 1, .iadd, .iaload, .invokevirtual 126, .aload 2, .aload 0, .iload 4, .iconst 1, .iadd, .iaload, .invokevirtual 209, .if_icmp .eq 123]),
  (744, [.iconst 0, .ireturn]),
  (746, [.aload 1, .aload 0, .iload 4, .iconst 1, .iadd, .iaload, .aload 0, .iload 4, .iconst 2, .iadd, .iaload, .aload 0, .iload 4, .iconst 3, .iadd, .iaload, .invokevirtual 127, .aload 2, .aload 0, .iload 4, .iconst 1, .iadd, .iaload, .aload 0, .iload 4, .iconst 2, .iadd, .iaload, .aload 0, .iload 4, .iconst 3, .iadd, .iaload, .invokevirtual 210, .if_icmp .eq 123]),
  (793, [.iconst 0, .ireturn]),
  (795, [.aload 1, .aload 0, .iload 4, .iconst 1, .iadd, .iaload, .aload 0, .iload 4, .iconst 2, .iadd, .iaload, .invokevirtual 128, .aload 2, .aload 0, .iload 4, .iconst 1, .iadd, .iaload, .aload 0, .iload 4, .iconst 2, .iadd, .iaload, .invokevirtual 213, .if_icmp .eq 123]),
  (830, [.iconst 0, .ireturn]),
  (832, [.aload 1, .aload 0, .iload 4, .iconst 1, .iadd, .iaload, .aload 0, .iload 4, .iconst 2, .iadd, .iaload, .aload 0, .iload 4, .iconst 3, .iadd, .iaload, .invokevirtual 129, .aload 2, .aload 0, .iload 4, .iconst 1, .iadd, .iaload, .aload 0, .iload 4, .iconst 2, .iadd, .iaload, .aload 0, .iload 4, .iconst 3, .iadd, .iaload, .invokevirtual 214, .if_icmp .eq 123]),
  (879, [.iconst 0, .ireturn]),
  (881, [.aload 1, .aload 0, .iload 4, .iconst 1, .iadd, .iaload, .aload 0, .iload 4, .iconst 2, .iadd, .iaload, .invokevirtual 130, .aload 2, .aload 0, .iload 4, .iconst 1, .iadd, .iaload, .aload 0, .iload 4, .iconst 2, .iadd, .iaload, .invokevirtual 215, .if_icmp .eq 123]),
  (916, [.iconst 0, .ireturn]),
  (918, [.aload 1, .aload 0, .iload 4, .iconst 1, .iadd, .iaload, .invokevirtual 132, .aload 2, .aload 0, .iload 4, .iconst 1, .iadd, .iaload, .invokevirtual 216, .if_icmp .eq 123]),
  (941, [.iconst 0, .ireturn]),
  (943, [.aload 1, .aload 0, .iload 4, .iconst 1, .iadd, .iaload, .aload 0, .iload 4, .iconst 2, .iadd, .iaload, .ifCond .eq 43]),
  (959, [.iconst 1, .goto 44]),
  (963, [.iconst 0]),
  (964, [.invokevirtual 133, .aload 2, .aload 0, .iload 4, .iconst 1, .iadd, .iaload, .aload 0, .iload 4, .iconst 2, .iadd, .iaload, .ifCond .eq 46]),
  (983, [.iconst 1, .goto 47]),
  (987, [.iconst 0]),
  (988, [.invokevirtual 217, .if_icmp .eq 123]),
  (994, [.iconst 0, .ireturn]),
  (996, [.aload 1, .aload 0, .iload 4, .iconst 1, .iadd, .iaload, .ifCond .eq 51]),
  (1006, [.iconst 1, .goto 52]),
  (1010, [.iconst 0]),
  (1011, [.invokevirtual 135, .aload 2, .aload 0, .iload 4, .iconst 1, .iadd, .iaload, .ifCond .eq 54]),
  (1024, [.iconst 1, .goto 55]),
  (1028, [.iconst 0]),
  (1029, [.invokevirtual 220, .if_icmp .eq 123]),
  (1035, [.iconst 0, .ireturn]),
  (1037, [.aload 1, .aload 0, .iload 4, .iconst 1, .iadd, .iaload, .aload 0, .iload 4, .iconst 2, .iadd, .iaload, .ifCond .eq 59]),
  (1053, [.iconst 1, .goto 60]),
  (1057, [.iconst 0]),
  (1058, [.invokevirtual 136, .aload 2, .aload 0, .iload 4, .iconst 1, .iadd, .iaload, .aload 0, .iload 4, .iconst 2, .iadd, .iaload, .ifCond .eq 62]),
  (1077, [.iconst 1, .goto 63]),
  (1081, [.iconst 0]),
  (1082, [.invokevirtual 223, .if_icmp .eq 123]),
  (1088, [.iconst 0, .ireturn]),
  (1090, [.aload 1, .invokevirtual 138, .aload 2, .invokevirtual 224, .if_icmp .eq 123]),
  (1101, [.iconst 0, .ireturn]),
  (1103, [.aload 1, .aload 0, .iload 4, .iconst 1, .iadd, .iaload, .invokevirtual 139, .aload 2, .aload 0, .iload 4, .iconst 1, .iadd, .iaload, .invokevirtual 225, .if_icmp .eq 123]),
  (1126, [.iconst 0, .ireturn]),
  (1128, [.aload 1, .aload 0, .iload 4, .iconst 1, .iadd, .iaload, .invokevirtual 140, .aload 2, .aload 0, .iload 4, .iconst 1, .iadd, .iaload, .invokevirtual 228, .if_icmp .eq 123]),
  (1151, [.iconst 0, .ireturn]),
  (1153, [.aload 1, .aload 0, .iload 4, .iconst 1, .iadd, .iaload, .aload 0, .iload 4, .iconst 2, .iadd, .iaload, .invokevirtual 141, .aload 2, .aload 0, .iload 4, .iconst 1, .iadd, .iaload, .aload 0, .iload 4, .iconst 2, .iadd, .iaload, .invokevirtual 231, .if_icmp .eq 123]),
  (1188, [.iconst 0, .ireturn]),
  (1190, [.aload 1, .aload 0, .iload 4, .iconst 1, .iadd, .iaload, .aload 0, .iload 4, .iconst 2, .iadd, .iaload, .invokevirtual 142, .aload 2, .aload 0, .iload 4, .iconst 1, .iadd, .iaload, .aload 0, .iload 4, .iconst 2, .iadd, .iaload, .invokevirtual 232, .if_icmp .eq 123]),
  (1225, [.iconst 0, .ireturn]),
  (1227, [.aload 1, .aload 0, .iload 4, .iconst 1, .iadd, .iaload, .aload 0, .iload 4, .iconst 2, .iadd, .iaload, .invokevirtual 143, .aload 2, .aload 0, .iload 4, .iconst 1, .iadd, .iaload, .aload 0, .iload 4, .iconst 2, .iadd, .iaload, .invokevirtual 234, .if_icmp .eq 123]),
  (1262, [.iconst 0, .ireturn]),
  (1264, [.aload 1, .aload 0, .iload 4, .iconst 1, .iadd, .iaload, .aload 0, .iload 4, .iconst 2, .iadd, .iaload, .invokevirtual 144, .aload 2, .aload 0, .iload 4, .iconst 1, .iadd, .iaload, .aload 0, .iload 4, .iconst 2, .iadd, .iaload, .invokevirtual 235, .lcmp, .ifCond .eq 123]),
  (1300, [.iconst 0, .ireturn]),
  (1302, [.aload 1, .aload 0, .iload 4, .iconst 1, .iadd, .iaload, .aload 0, .iload 4, .iconst 2, .iadd, .iaload, .invokevirtual 145, .aload 2, .aload 0, .iload 4, .iconst 1, .iadd, .iaload, .aload 0, .iload 4, .iconst 2, .iadd, .iaload, .invokevirtual 237, .if_icmp .eq 123]),
  (1337, [.iconst 0, .ireturn]),
  (1339, [.aload 1, .aload 0, .iload 4, .iconst 1, .iadd, .iaload, .aload 0, .iload 4, .iconst 2, .iadd, .iaload, .aload 0, .iload 4, .iconst 3, .iadd, .iaload, .invokevirtual 146, .aload 2, .aload 0, .iload 4, .iconst 1, .iadd, .iaload, .aload 0, .iload 4, .iconst 2, .iadd, .iaload, .aload 0, .iload 4, .iconst 3, .iadd, .iaload, .invokevirtual 238, .if_icmp .eq 123]),
  (1386, [.iconst 0, .ireturn]),
  (1388, [.aload 1, .aload 0, .iload 4, .iconst 1, .iadd, .iaload, .aload 0, .iload 4, .iconst 2, .iadd, .iaload, .aload 0, .iload 4, .iconst 3, .iadd, .iaload, .invokevirtual 147, .aload 2, .aload 0, .iload 4, .iconst 1, .iadd, .iaload, .aload 0, .iload 4, .iconst 2, .iadd, .iaload, .aload 0, .iload 4, .iconst 3, .iadd, .iaload, .invokevirtual 239, .if_icmp .eq 123]),
  (1435, [.iconst 0, .ireturn]),
  (1437, [.aload 1, .aload 0, .iload 4, .iconst 1, .iadd, .iaload, .invokevirtual 148, .aload 2, .aload 0, .iload 4, .iconst 1, .iadd, .iaload, .invokevirtual 240, .if_icmp .eq 123]),
  (1460, [.iconst 0, .ireturn]),
  (1462, [.aload 1, .aload 0, .iload 4, .iconst 1, .iadd, .iaload, .invokevirtual 149, .aload 2, .aload 0, .iload 4, .iconst 1, .iadd, .iaload, .invokevirtual 242, .if_icmp .eq 123]),
  (1485, [.iconst 0, .ireturn]),
  (1487, [.aload 1, .aload 0, .iload 4, .iconst 1, .iadd, .iaload, .aload 0, .iload 4, .iconst 2, .iadd, .iaload, .aload 0, .iload 4, .iconst 3, .iadd, .iaload, .aload 0, .iload 4, .iconst 4, .iadd, .iaload, .ifCond .eq 91]),
  (1515, [.iconst 1, .goto 92]),
  (1519, [.iconst 0]),
  (1520, [.invokevirtual 150, .aload 2, .aload 0, .iload 4, .iconst 1, .iadd, .iaload, .aload 0, .iload 4, .iconst 2, .iadd, .iaload, .aload 0, .iload 4, .iconst 3, .iadd, .iaload, .aload 0, .iload 4, .iconst 4, .iadd, .iaload, .ifCond .eq 94]),
  (1551, [.iconst 1, .goto 95]),
  (1555, [.iconst 0]),
  (1556, [.invokevirtual 243, .if_icmp .eq 123]),
  (1562, [.iconst 0, .ireturn]),
  (1564, [.aload 1, .aload 0, .iload 4, .iconst 1, .iadd, .iaload, .aload 0, .iload 4, .iconst 2, .iadd, .iaload, .invokevirtual 151, .aload 2, .aload 0, .iload 4, .iconst 1, .iadd, .iaload, .aload 0, .iload 4, .iconst 2, .iadd, .iaload, .invokevirtual 247, .if_icmp .eq 123]),
  (1599, [.iconst 0, .ireturn]),
  (1601, [.aload 1, .invokevirtual 152, .aload 2, .invokevirtual 248, .if_icmp .eq 123]),
  (1612, [.iconst 0, .ireturn]),
  (1614, [.aload 1, .invokevirtual 153, .aload 2, .invokevirtual 249, .if_icmp .eq 123]),
  (1625, [.iconst 0, .ireturn]),
  (1627, [.aload 1, .aload 0, .iload 4, .iconst 1, .iadd, .iaload, .invokevirtual 154, .aload 2, .aload 0, .iload 4, .iconst 1, .iadd, .iaload, .invokevirtual 250, .if_icmp .eq 123]),
  (1650, [.iconst 0, .ireturn]),
  (1652, [.aload 1, .aload 0, .iload 4, .iconst 1, .iadd, .iaload, .aload 0, .iload 4, .iconst 2, .iadd, .iaload, .aload 0, .iload 4, .iconst 3, .iadd, .iaload, .invokevirtual 155, .aload 2, .aload 0, .iload 4, .iconst 1, .iadd, .iaload, .aload 0, .iload 4, .iconst 2, .iadd, .iaload, .aload 0, .iload 4, .iconst 3, .iadd, .iaload, .invokevirtual 251, .if_icmp .eq 123]),
  (1699, [.iconst 0, .ireturn]),
  (1701, [.aload 1, .aload 0, .iload 4, .iconst 1, .iadd, .iaload, .aload 0, .iload 4, .iconst 2, .iadd, .iaload, .aload 0, .iload 4, .iconst 3, .iadd, .iaload, .invokevirtual 156, .aload 2, .aload 0, .iload 4, .iconst 1, .iadd, .iaload, .aload 0, .iload 4, .iconst 2, .iadd, .iaload, .aload 0, .iload 4, .iconst 3, .iadd, .iaload, .invokevirtual 253, .if_icmp .eq 123]),
  (1748, [.iconst 0, .ireturn]),
  (1750, [.aload 1, .aload 0, .iload 4, .iconst 1, .iadd, .iaload, .aload 0, .iload 4, .iconst 2, .iadd, .iaload, .aload 0, .iload 4, .iconst 3, .iadd, .iaload, .invokevirtual 157, .aload 2, .aload 0, .iload 4, .iconst 1, .iadd, .iaload, .aload 0, .iload 4, .iconst 2, .iadd, .iaload, .aload 0, .iload 4, .iconst 3, .iadd, .iaload, .invokevirtual 254, .if_icmp .eq 123]),
  (1797, [.iconst 0, .ireturn]),
  (1799, [.aload 1, .aload 0, .iload 4, .iconst 1, .iadd, .iaload, .aload 0, .iload 4, .iconst 2, .iadd, .iaload, .aload 3, .invokestatic 262, .istore 5, .aload 2, .aload 0, .iload 4, .iconst 1, .iadd, .iaload, .aload 0, .iload 4, .iconst 2, .iadd, .iaload, .invokevirtual 257, .lstore 6, .aload 2, .invokevirtual 162, .iload 5, .if_icmp .eq 113]),
  (1845, [.iconst 0, .ireturn]),
  (1847, [.iload 5, .ifCond .ne 116]),
  (1852, [.aload 3, .iconst 0, .laload, .lload 6, .lcmp, .ifCond .eq 116]),
  (1861, [.iconst 0, .ireturn]),
  (1863, [.goto 123]),
  (1866, [.aload 1, .aload 0, .iload 4, .iconst 1, .iadd, .iaload, .aload 0, .iload 4, .iconst 2, .iadd, .iaload, .aload 0, .iload 4, .iconst 3, .iadd, .iaload, .aload 0, .iload 4, .iconst 4, .iadd, .iaload, .aload 0, .iload 4, .iconst 5, .iadd, .iaload, .invokevirtual 158, .aload 2, .aload 0, .iload 4, .iconst 1, .iadd, .iaload, .aload 0, .iload 4, .iconst 2, .iadd, .iaload, .aload 0, .iload 4, .iconst 3, .iadd, .iaload, .aload 0, .iload 4, .iconst 4, .iadd, .iaload, .aload 0, .iload 4, .iconst 5, .iadd, .iaload, .invokevirtual 258, .if_icmp .eq 123]),
  (1937, [.iconst 0, .ireturn]),
  (1939, [.aload 1, .aload 0, .iload 4, .iconst 1, .iadd, .iaload, .invokevirtual 159, .aload 2, .aload 0, .iload 4, .iconst 1, .iadd, .iaload, .invokevirtual 259, .if_icmp .eq 123]),
  (1962, [.iconst 0, .ireturn]),
  (1964, [.aload 1, .aload 0, .iload 4, .iconst 1, .iadd, .iaload, .invokevirtual 160, .aload 2, .aload 0, .iload 4, .iconst 1, .iadd, .iaload, .invokevirtual 261, .if_icmp .eq 123]),
  (1987, [.iconst 0, .ireturn]),
  (1989, [.iinc 4 6, .goto 1]),
  (1995, [.iconst 1, .ireturn])]
def pm_Ms : List pm_M := [md_Integer_signum, md_Integer_bitCount, md_Arrays_fill, md_Arrays_copyOf, md_Chamber_init, md_Chamber_memberAt, md_Chamber_treeAt, md_Chamber_takeOver, md_Chamber_allVoices, md_Chamber_allQuestions, md_Chamber_allWeight, md_Hall_init, md_Hall_seat, md_Hall_settle, md_Hall_settleQuestion, md_Hall_votesFor, md_Hall_drawLines, md_Hall_voteOf, md_Hall_sideOfBought, md_Hall_chairsOf, md_Hall_better, md_Hall_margin, md_Hall_beats, md_Hall_settleChoice, md_Hall_settleEnd, md_Hall_voteIn, md_Hall_makeAll, md_Hall_rememberWinners, md_Hall_firstOtherWinner, md_Hall_killerBits, md_Hall_putAgainst, md_Hall_shieldBits, md_Hall_seatOthers, md_Laws_init, md_Laws_assemble, md_Laws_reckonEnds, md_Laws_like, md_Laws_firstBreach, md_Laws_missesBest, md_Laws_isBrokenByOne, md_Laws_fallsWhenLifted, md_Laws_gainsByLying, md_Member_init, md_Member_begin, md_Member_weight, md_Member_takeOver, md_Member_tellWishes, md_Member_ofParty, md_Member_leaning, md_Orders_init, md_Orders_weigh, md_Orders_lineUp, md_Orders_comesOf, md_Orders_comesDeep, md_Orders_comesPlain, md_Orders_reachBits, md_Orders_peakBits, md_Orders_peakOf, md_Orders_isBeatenWhole, md_Orders_topBits, md_Orders_reachedFrom, md_Orders_firstFor, md_Orders_spread, md_Orders_digits, md_Orders_nextRow, md_Orders_change, md_Orders_beatsAll, md_Orders_uncoveredBits, md_Orders_ringAt, md_Orders_isRing, md_Orders_byRanks, md_Orders_greatestOf, md_Plots_init, md_Plots_plainOnes, md_Plots_fewestOf, md_Plots_makeOfKind, md_Plots_firstGaining, md_Plots_chanceOf, md_Plots_seatDoubtful, md_Plots_suppose, md_Plots_allOnes, md_Plots_findLie, md_Plots_mattering, md_Plots_there, md_Plots_leastWish, md_Plots_lieDigits, md_Plots_beatsIn, md_Reader_init, md_Reader_faultOf, md_Reader_readPart, md_Reader_readQuestion, md_Reader_addNode, md_Reader_readSign, md_Reader_readChoice, md_Reader_readPair, md_Reader_readEnd, md_Reader_treeRead, md_Shelf_init, md_Shelf_isA, md_Shelf_holdsWishes, md_Shelf_beginRow, md_Shelf_lowestBits, md_Shelf_hasPlaces, md_Tree_init, md_Tree_nodeOf, md_Tree_questionsAhead, md_Desk_init, md_Desk_set, md_Desk_within, md_Desk_member, md_Desk_fits, md_Desk_bought, md_Desk_isEnd, md_Desk_becomes, md_Desk_wish, md_Desk_changeWish, md_Desk_doubted, md_Desk_sure, md_Desk_about, md_Desk_fault, md_Desk_shelfAt, md_Desk_refusalOf, md_Desk_tree, md_Desk_of, md_Desk_beat, md_Desk_stands, md_Desk_run, md_Desk_ask, md_Desk_wonBy, md_Desk_why, md_Desk_ifAll, md_Desk_comesIfAll, md_Desk_parts, md_Desk_order, md_Desk_weighOrders, md_Desk_reach, md_Desk_first, md_Desk_isThere, md_Desk_best, md_Desk_top, md_Desk_killers, md_Desk_shields, md_Desk_tell, md_Desk_falseVote, md_Desk_chance, md_Desk_boughtOff, md_Desk_bestLie, md_Desk_surely, md_Desk_ring, md_Desk_usual, md_Desk_breach, md_Desk_finds, md_Desk_image, md_Desk_restore, md_Desk_count, md_Desk_keep, md_Desk_row, md_Desk_put, md_Desk_copy, md_Desk_heft, md_Desk_toss, md_Model_init, md_Model_thrown, md_Model_set, md_Model_in, md_Model_member, md_Model_isNumber, md_Model_bought, md_Model_isMember, md_Model_isEnd, md_Model_becomes, md_Model_wish, md_Model_change, md_Model_doubted, md_Model_sure, md_Model_about, md_Model_heftOf, md_Model_fault, md_Model_lacks, md_Model_faultOf, md_Model_here, md_Model_begin, md_Model_readEnd, md_Model_take, md_Model_add, md_Model_part, md_Model_tree, md_Model_beat, md_Model_margin, md_Model_members, md_Model_wishOf, md_Model_placeIn, md_Model_liked, md_Model_voicesOf, md_Model_stands, md_Model_standing, md_Model_beats, md_Model_of, md_Model_isTree, md_Model_endOf, md_Model_load, md_Model_settle, md_Model_settleQuestion, md_Model_voteOf, md_Model_kindOf, md_Model_sign, md_Model_partyOf, md_Model_partySign, md_Model_endFor, md_Model_run, md_Model_ask, md_Model_isQuestion, md_Model_nodeOf, md_Model_wonBy, md_Model_why, md_Model_ifAll, md_Model_parts, md_Model_order, md_Model_isThere, md_Model_orderEnds, md_Model_reach, md_Model_allOrders, md_Model_findOrder, md_Model_first, md_Model_best, md_Model_top, md_Model_reachedFrom, md_Model_isCovered, md_Model_killers, md_Model_isKiller, md_Model_against, md_Model_shields, md_Model_tell, md_Model_ones, md_Model_falseVote, md_Model_chance, md_Model_findUnsure, md_Model_boughtOff, md_Model_bestLie, md_Model_surely, md_Model_ring, md_Model_findRing, md_Model_usual, md_Model_breach, md_Model_findChamber, md_Model_breaks, md_Model_lifted, md_Model_finds, md_Model_image, md_Model_restore, md_Model_count, md_Model_keep, md_Model_failureOf, md_Model_row, md_Model_put, md_Model_wrongRow, md_Model_narrowed, md_Model_element, md_Model_copy, md_Model_heft, md_Model_wrongShelf, md_Model_toss, md_Law_element]
