/-! printed by wip/whole/mkprim.py: the blocks of the four methods that throw or catch; the words of their calls and throws -/
def cp_fail : List (Nat × List Instr) := [(0, [.aload 0, .getfield 193, .iconst 4, .if_icmp .ne 2]),
  (8, [.getstatic 1, .areturn]),
  (18, [.aload 0, .getfield 193, .iconst 3, .if_icmp .eq 5]),
  (26, [.aload 0, .getfield 193, .iconst 5, .if_icmp .ne 6]),
  (34, [.aload 0, .getfield 194, .iconst 1, .if_icmp .ne 6]),
  (42, [.return_]),
  (43, [.getstatic 2, .areturn])]
def sp_fail (b : Nat) : Bool := b == 1 || b == 6
abbrev yp_fail : MethodName := ⟨"QuestionDesk$Member", "fail", "()V"⟩
abbrev bp_fail : ByteArray := prog_5_method_8_code
theorem kp_fail : ∀ (b : Nat) (q : Nat × List Instr), cp_fail[b]? = some q → sp_fail b = false → (true = true → Instr.areturn ∉ q.2) ∧ ∃ hs, pm_bk bp_fail "QuestionDesk$Member" false pm_Ms cp_fail b q.1 q.2 hs = true := by
  intro b q hq hs
  match b, hq, hs with
  | 0, hq, _ => cases hq; exact ⟨fun _ => by simp, [0, 1047, 0, 0], by decide +kernel⟩
  | 1, hq, hs => exact absurd hs (by decide)
  | 2, hq, _ => cases hq; exact ⟨fun _ => by simp, [0, 1047, 0, 0], by decide +kernel⟩
  | 3, hq, _ => cases hq; exact ⟨fun _ => by simp, [0, 1047, 0, 0], by decide +kernel⟩
  | 4, hq, _ => cases hq; exact ⟨fun _ => by simp, [0, 1051, 0, 0], by decide +kernel⟩
  | 5, hq, _ => cases hq; exact ⟨fun _ => by simp, [0], by decide +kernel⟩
  | 6, hq, hs => exact absurd hs (by decide)
  | k + 7, hq, _ => simp [cp_fail] at hq
def cp_elem : List (Nat × List Instr) := [(0, [.aload 0, .iload 1, .invokevirtual 120, .astore 3, .aload 3, .ifnonnull 2]),
  (10, [.getstatic 1, .areturn]),
  (21, [.aload 3, .iconst 2, .invokestatic 121, .ifCond .eq 4]),
  (29, [.getstatic 2, .areturn]),
  (40, [.iload 2, .iconst 0, .aload 3, .getfield 450, .iconst 1, .isub, .invokestatic 108, .ifCond .ne 6]),
  (54, [.getstatic 3, .areturn]),
  (65, [.aload 3, .getfield 452, .iload 2, .iaload, .i2l, .lreturn])]
def sp_elem (b : Nat) : Bool := b == 1 || b == 3 || b == 5
abbrev yp_elem : MethodName := ⟨"QuestionDesk", "element", "(II)J"⟩
abbrev bp_elem : ByteArray := prog_1_method_44_code
theorem kp_elem : ∀ (b : Nat) (q : Nat × List Instr), cp_elem[b]? = some q → sp_elem b = false → (true = true → Instr.areturn ∉ q.2) ∧ ∃ hs, pm_bk bp_elem "QuestionDesk" false pm_Ms cp_elem b q.1 q.2 hs = true := by
  intro b q hq hs
  match b, hq, hs with
  | 0, hq, _ => cases hq; exact ⟨fun _ => by simp, [0, 0, 2162, 0, 0, 0], by decide +kernel⟩
  | 1, hq, hs => exact absurd hs (by decide)
  | 2, hq, _ => cases hq; exact ⟨fun _ => by simp, [0, 0, 2166, 0], by decide +kernel⟩
  | 3, hq, hs => exact absurd hs (by decide)
  | 4, hq, _ => cases hq; exact ⟨fun _ => by simp, [0, 0, 0, 2051, 0, 0, 2099, 0], by decide +kernel⟩
  | 5, hq, hs => exact absurd hs (by decide)
  | 6, hq, _ => cases hq; exact ⟨fun _ => by simp, [0, 2055, 0, 0, 0, 0], by decide +kernel⟩
  | k + 7, hq, _ => simp [cp_elem] at hq
def cp_toss : List (Nat × List Instr) := [(0, [.aload 0, .iload 1, .invokevirtual 120, .astore 2, .aload 2, .iconst 1, .invokestatic 121, .istore 3, .aload 2, .ifnull 2]),
  (16, [.iload 3, .ifCond .eq 3]),
  (20, [.iload 3, .ireturn]),
  (22, [.aload 2, .getfield 451, .astore 4]),
  (28, [.aload 4, .areturn]),
  (30, [.athrow]),
  (33, [.goto 11]),
  (36, [.astore 5]),
  (38, [.iconst 100, .aload 4, .getfield 196, .iadd, .aload 4, .getfield 192, .iadd, .ireturn]),
  (53, [.astore 5]),
  (55, [.aload 4, .getfield 192, .ireturn]),
  (61, [.iconst (-15), .ireturn])]
def sp_toss (b : Nat) : Bool := b == 4
abbrev yp_toss : MethodName := ⟨"QuestionDesk", "toss", "(I)I"⟩
abbrev bp_toss : ByteArray := prog_1_method_47_code
theorem kp_toss : ∀ (b : Nat) (q : Nat × List Instr), cp_toss[b]? = some q → sp_toss b = false → (true = true → Instr.areturn ∉ q.2) ∧ ∃ hs, pm_bk bp_toss "QuestionDesk" false pm_Ms cp_toss b q.1 q.2 hs = true := by
  intro b q hq hs
  match b, hq, hs with
  | 0, hq, _ => cases hq; exact ⟨fun _ => by simp, [0, 0, 2162, 0, 0, 0, 2166, 0, 0, 0], by decide +kernel⟩
  | 1, hq, _ => cases hq; exact ⟨fun _ => by simp, [0, 0], by decide +kernel⟩
  | 2, hq, _ => cases hq; exact ⟨fun _ => by simp, [0, 0], by decide +kernel⟩
  | 3, hq, _ => cases hq; exact ⟨fun _ => by simp, [0, 2053, 0], by decide +kernel⟩
  | 4, hq, hs => exact absurd hs (by decide)
  | 5, hq, _ => cases hq; exact ⟨fun _ => by simp, [0], by decide +kernel⟩
  | 6, hq, _ => cases hq; exact ⟨fun _ => by simp, [0], by decide +kernel⟩
  | 7, hq, _ => cases hq; exact ⟨fun _ => by simp, [0], by decide +kernel⟩
  | 8, hq, _ => cases hq; exact ⟨fun _ => by simp, [0, 0, 1060, 0, 0, 1046, 0, 0], by decide +kernel⟩
  | 9, hq, _ => cases hq; exact ⟨fun _ => by simp, [0], by decide +kernel⟩
  | 10, hq, _ => cases hq; exact ⟨fun _ => by simp, [0, 1046, 0], by decide +kernel⟩
  | 11, hq, _ => cases hq; exact ⟨fun _ => by simp, [0, 0], by decide +kernel⟩
  | k + 12, hq, _ => simp [cp_toss] at hq
def cp_wrap : List (Nat × List Instr) := [(0, [.aload 3, .iconst 0, .aload 0, .iload 1, .iload 2]),
  (5, [.athrow]),
  (8, [.lastore, .goto 7]),
  (12, [.astore 4]),
  (14, [.iconst 1, .ireturn]),
  (16, [.astore 4]),
  (18, [.iconst 2, .ireturn]),
  (20, [.iconst 0, .ireturn])]
def sp_wrap (b : Nat) : Bool := b == 1
abbrev yp_wrap : MethodName := ⟨"QuestionDeskLaw", "element", "(LQuestionDesk;II[J)I"⟩
abbrev bp_wrap : ByteArray := method_3_code
theorem kp_wrap : ∀ (b : Nat) (q : Nat × List Instr), cp_wrap[b]? = some q → sp_wrap b = false → (true = true → Instr.areturn ∉ q.2) ∧ ∃ hs, pm_bk bp_wrap "QuestionDeskLaw" false pm_Ms cp_wrap b q.1 q.2 hs = true := by
  intro b q hq hs
  match b, hq, hs with
  | 0, hq, _ => cases hq; exact ⟨fun _ => by simp, [0, 0, 0, 0, 0], by decide +kernel⟩
  | 1, hq, hs => exact absurd hs (by decide)
  | 2, hq, _ => cases hq; exact ⟨fun _ => by simp, [0, 0], by decide +kernel⟩
  | 3, hq, _ => cases hq; exact ⟨fun _ => by simp, [0], by decide +kernel⟩
  | 4, hq, _ => cases hq; exact ⟨fun _ => by simp, [0, 0], by decide +kernel⟩
  | 5, hq, _ => cases hq; exact ⟨fun _ => by simp, [0], by decide +kernel⟩
  | 6, hq, _ => cases hq; exact ⟨fun _ => by simp, [0, 0], by decide +kernel⟩
  | 7, hq, _ => cases hq; exact ⟨fun _ => by simp, [0, 0], by decide +kernel⟩
  | k + 8, hq, _ => simp [cp_wrap] at hq
theorem wp_fail_code : Cond.code yp_fail bp_fail 1 none ∈ pm_tbl := pm_wb_in (i := 5073) (by decide +kernel)
theorem wp_elem_code : Cond.code yp_elem bp_elem 4 (some .long) ∈ pm_tbl := pm_wb_in (i := 5166) (by decide +kernel)
theorem wp_toss_code : Cond.codeWith yp_toss bp_toss 6 (some .int) [(28, 33, 36, 376), (28, 33, 53, 354)] ∈ pm_tbl := pm_wb_in (i := 5067) (by decide +kernel)
theorem wp_wrap_code : Cond.codeWith yp_wrap bp_wrap 5 (some .int) [(0, 9, 12, 13), (0, 9, 16, 15)] ∈ pm_tbl := pm_wb_in (i := 5160) (by decide +kernel)
theorem wp_fail_link : Cond.methodLink "QuestionDesk" 373 yp_fail ∈ pm_tbl := pm_wb_in (i := 5070) (by decide +kernel)
theorem wp_fail_ini : Cond.initialized "QuestionDesk$Member" ∈ pm_tbl := pm_wb_in (i := 1003) (by decide +kernel)
theorem wp_fail_in : Cond.instanceMethod yp_fail ∈ pm_tbl := pm_wb_in (i := 5071) (by decide +kernel)
theorem wp_fail_sel : Cond.selects "QuestionDesk$Member" yp_fail yp_fail ∈ pm_tbl := pm_wb_in (i := 5072) (by decide +kernel)
theorem wp_elem_link : Cond.methodLink "QuestionDeskLaw" 7 yp_elem ∈ pm_tbl := pm_wb_in (i := 5163) (by decide +kernel)
theorem wp_elem_ini : Cond.initialized "QuestionDesk" ∈ pm_tbl := pm_wb_in (i := 1001) (by decide +kernel)
theorem wp_elem_in : Cond.instanceMethod yp_elem ∈ pm_tbl := pm_wb_in (i := 5164) (by decide +kernel)
theorem wp_elem_sel : Cond.selects "QuestionDesk" yp_elem yp_elem ∈ pm_tbl := pm_wb_in (i := 5165) (by decide +kernel)
theorem wp_toss_link : Cond.methodLink "QuestionDeskLaw" 214 yp_toss ∈ pm_tbl := pm_wb_in (i := 5064) (by decide +kernel)
theorem wp_toss_ini : Cond.initialized "QuestionDesk" ∈ pm_tbl := pm_wb_in (i := 1001) (by decide +kernel)
theorem wp_toss_in : Cond.instanceMethod yp_toss ∈ pm_tbl := pm_wb_in (i := 5065) (by decide +kernel)
theorem wp_toss_sel : Cond.selects "QuestionDesk" yp_toss yp_toss ∈ pm_tbl := pm_wb_in (i := 5066) (by decide +kernel)
theorem wp_wrap_link : Cond.methodLink "QuestionDeskLaw" 196 yp_wrap ∈ pm_tbl := pm_wb_in (i := 5158) (by decide +kernel)
theorem wp_wrap_ini : Cond.initialized "QuestionDeskLaw" ∈ pm_tbl := pm_wb_in (i := 1000) (by decide +kernel)
theorem wp_wrap_st : Cond.static yp_wrap ∈ pm_tbl := pm_wb_in (i := 5159) (by decide +kernel)
theorem wp_l1 : Cond.classLink "QuestionDesk" 376 "java/lang/UnsupportedOperationException" ∈ pm_tbl := pm_wb_in (i := 5068) (by decide +kernel)
theorem wp_l2 : Cond.classLink "QuestionDesk" 354 "java/lang/IllegalStateException" ∈ pm_tbl := pm_wb_in (i := 5069) (by decide +kernel)
theorem wp_l3 : Cond.classLink "QuestionDesk$Member" 53 "java/lang/UnsupportedOperationException" ∈ pm_tbl := pm_wb_in (i := 5074) (by decide +kernel)
theorem wp_l4 : Cond.classLink "QuestionDesk$Member" 60 "java/lang/IllegalStateException" ∈ pm_tbl := pm_wb_in (i := 5142) (by decide +kernel)
theorem wp_l5 : Cond.classLink "QuestionDeskLaw" 13 "java/lang/IllegalArgumentException" ∈ pm_tbl := pm_wb_in (i := 5161) (by decide +kernel)
theorem wp_l6 : Cond.classLink "QuestionDeskLaw" 15 "java/lang/IllegalStateException" ∈ pm_tbl := pm_wb_in (i := 5162) (by decide +kernel)
theorem wp_l7 : Cond.classLink "QuestionDesk" 347 "java/lang/IllegalArgumentException" ∈ pm_tbl := pm_wb_in (i := 5167) (by decide +kernel)
theorem wp_ic1 : Cond.initialized "java/lang/UnsupportedOperationException" ∈ pm_tbl := pm_wb_in (i := 1021) (by decide +kernel)
theorem wp_ic2 : Cond.initialized "java/lang/IllegalStateException" ∈ pm_tbl := pm_wb_in (i := 1020) (by decide +kernel)
theorem wp_ic3 : Cond.initialized "java/lang/IllegalArgumentException" ∈ pm_tbl := pm_wb_in (i := 1019) (by decide +kernel)
def wx_B : List Cond := [.castable "java/lang/UnsupportedOperationException" "java/lang/UnsupportedOperationException", .castable "java/lang/IllegalStateException" "java/lang/IllegalStateException", .castable "java/lang/IllegalArgumentException" "java/lang/IllegalArgumentException", .declares ⟨"java/lang/RuntimeException", "<init>", "(Ljava/lang/String;)V"⟩, .declares ⟨"java/lang/Exception", "<init>", "(Ljava/lang/String;)V"⟩, .declares ⟨"java/lang/Throwable", "<init>", "(Ljava/lang/String;)V"⟩]
theorem wx_in : ∀ w ∈ wx_B, w ∈ lw_tbl := fun w hw => of_decide_eq_true (List.all_eq_true.mp (by decide +kernel : wx_B.all (fun w => decide (w ∈ lw_tbl)) = true) w hw)
def np_ex : List String := ["java/lang/RuntimeException", "java/lang/Exception"]
theorem wp_a1 : ∀ w ∈ vx_atS "QuestionDesk$Member" 57 "java/lang/UnsupportedOperationException" np_ex, w ∈ lw_tbl := fun w hw => of_decide_eq_true (List.all_eq_true.mp (by decide +kernel : (vx_atS "QuestionDesk$Member" 57 "java/lang/UnsupportedOperationException" np_ex).all (fun w => decide (w ∈ lw_tbl)) = true) w hw)
theorem wp_ga1 : ∀ w ∈ (vx_atS "QuestionDesk$Member" 57 "java/lang/UnsupportedOperationException" np_ex).filter (fun w => !goodWord w), w ∈ wx_B := fun w hw => of_decide_eq_true (List.all_eq_true.mp (by decide +kernel : ((vx_atS "QuestionDesk$Member" 57 "java/lang/UnsupportedOperationException" np_ex).filter (fun w => !goodWord w)).all (fun w => decide (w ∈ wx_B)) = true) w hw)
theorem wp_oa1 : ∀ w ∈ vx_atS "QuestionDesk$Member" 57 "java/lang/UnsupportedOperationException" np_ex, vx_ot w = true := fun w hw => List.all_eq_true.mp (by decide +kernel : (vx_atS "QuestionDesk$Member" 57 "java/lang/UnsupportedOperationException" np_ex).all vx_ot = true) w hw
theorem wp_a2 : ∀ w ∈ vx_atS "QuestionDesk$Member" 64 "java/lang/IllegalStateException" np_ex, w ∈ lw_tbl := fun w hw => of_decide_eq_true (List.all_eq_true.mp (by decide +kernel : (vx_atS "QuestionDesk$Member" 64 "java/lang/IllegalStateException" np_ex).all (fun w => decide (w ∈ lw_tbl)) = true) w hw)
theorem wp_ga2 : ∀ w ∈ (vx_atS "QuestionDesk$Member" 64 "java/lang/IllegalStateException" np_ex).filter (fun w => !goodWord w), w ∈ wx_B := fun w hw => of_decide_eq_true (List.all_eq_true.mp (by decide +kernel : ((vx_atS "QuestionDesk$Member" 64 "java/lang/IllegalStateException" np_ex).filter (fun w => !goodWord w)).all (fun w => decide (w ∈ wx_B)) = true) w hw)
theorem wp_oa2 : ∀ w ∈ vx_atS "QuestionDesk$Member" 64 "java/lang/IllegalStateException" np_ex, vx_ot w = true := fun w hw => List.all_eq_true.mp (by decide +kernel : (vx_atS "QuestionDesk$Member" 64 "java/lang/IllegalStateException" np_ex).all vx_ot = true) w hw
theorem wp_a3 : ∀ w ∈ vx_atS "QuestionDesk" 351 "java/lang/IllegalArgumentException" np_ex, w ∈ lw_tbl := fun w hw => of_decide_eq_true (List.all_eq_true.mp (by decide +kernel : (vx_atS "QuestionDesk" 351 "java/lang/IllegalArgumentException" np_ex).all (fun w => decide (w ∈ lw_tbl)) = true) w hw)
theorem wp_ga3 : ∀ w ∈ (vx_atS "QuestionDesk" 351 "java/lang/IllegalArgumentException" np_ex).filter (fun w => !goodWord w), w ∈ wx_B := fun w hw => of_decide_eq_true (List.all_eq_true.mp (by decide +kernel : ((vx_atS "QuestionDesk" 351 "java/lang/IllegalArgumentException" np_ex).filter (fun w => !goodWord w)).all (fun w => decide (w ∈ wx_B)) = true) w hw)
theorem wp_oa3 : ∀ w ∈ vx_atS "QuestionDesk" 351 "java/lang/IllegalArgumentException" np_ex, vx_ot w = true := fun w hw => List.all_eq_true.mp (by decide +kernel : (vx_atS "QuestionDesk" 351 "java/lang/IllegalArgumentException" np_ex).all vx_ot = true) w hw
theorem wp_a4 : ∀ w ∈ vx_atS "QuestionDesk" 358 "java/lang/IllegalStateException" np_ex, w ∈ lw_tbl := fun w hw => of_decide_eq_true (List.all_eq_true.mp (by decide +kernel : (vx_atS "QuestionDesk" 358 "java/lang/IllegalStateException" np_ex).all (fun w => decide (w ∈ lw_tbl)) = true) w hw)
theorem wp_ga4 : ∀ w ∈ (vx_atS "QuestionDesk" 358 "java/lang/IllegalStateException" np_ex).filter (fun w => !goodWord w), w ∈ wx_B := fun w hw => of_decide_eq_true (List.all_eq_true.mp (by decide +kernel : ((vx_atS "QuestionDesk" 358 "java/lang/IllegalStateException" np_ex).filter (fun w => !goodWord w)).all (fun w => decide (w ∈ wx_B)) = true) w hw)
theorem wp_oa4 : ∀ w ∈ vx_atS "QuestionDesk" 358 "java/lang/IllegalStateException" np_ex, vx_ot w = true := fun w hw => List.all_eq_true.mp (by decide +kernel : (vx_atS "QuestionDesk" 358 "java/lang/IllegalStateException" np_ex).all vx_ot = true) w hw
