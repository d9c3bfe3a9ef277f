/-! printed by wip/whole/mkprim.py: fail and element where they return -/
def cpr_fail : List (Nat × List Instr) := [(0, [.aload 0, .getfield 193, .iconst 4, .if_icmp .ne 2]),
  (8, [.athrow]),
  (18, [.aload 0, .getfield 193, .iconst 3, .if_icmp .eq 5]),
  (26, [.aload 0, .getfield 193, .iconst 5, .if_icmp .ne 6]),
  (34, [.aload 0, .getfield 194, .iconst 1, .if_icmp .ne 6]),
  (42, [.return_]),
  (43, [.athrow])]
def md_failr : pm_M := ((⟨"QuestionDesk$Member", "fail", "()V"⟩, prog_5_method_8_code, 1, none), (0, 3), cpr_fail)
theorem ck_failr : pm_mOK md_failr ∧ pm_code pm_Ms md_failr := pm_ck_ok (h := [5073, 1003, 5071, 5072]) (hs := [[0, 1047, 0, 0], [0], [0, 1047, 0, 0], [0, 1047, 0, 0], [0, 1051, 0, 0], [0], [0]]) (by decide +kernel) (by decide +kernel)
def cpr_elem : List (Nat × List Instr) := [(0, [.aload 0, .iload 1, .invokevirtual 120, .astore 3, .aload 3, .ifnonnull 2]),
  (10, [.athrow]),
  (21, [.aload 3, .iconst 2, .invokestatic 121, .ifCond .eq 4]),
  (29, [.athrow]),
  (40, [.iload 2, .iconst 0, .aload 3, .getfield 450, .iconst 1, .isub, .invokestatic 108, .ifCond .ne 6]),
  (54, [.athrow]),
  (65, [.aload 3, .getfield 452, .iload 2, .iaload, .i2l, .lreturn])]
def md_elemr : pm_M := ((⟨"QuestionDesk", "element", "(II)J"⟩, prog_1_method_44_code, 4, some .long), (2, 9), cpr_elem)
theorem ck_elemr : pm_mOK md_elemr ∧ pm_code pm_Ms md_elemr := pm_ck_ok (h := [5166, 1001, 5164, 5165]) (hs := [[0, 0, 2162, 0, 0, 0], [0], [0, 0, 2166, 0], [0], [0, 0, 0, 2051, 0, 0, 2099, 0], [0], [0, 2055, 0, 0, 0, 0]]) (by decide +kernel) (by decide +kernel)
