/-! a checked op is the machine's -/
def pm_tc (k : Nat) : List Cond := match k with
  | 0 => k2_sels lw_privs
  | 1 => tables_1_1
  | 2 => tables_1_2
  | 3 => tables_1_3
  | 4 => tables_1_4
  | 5 => tables_1_5
  | 6 => tables_1_6
  | 7 => tables_1_7
  | 8 => tables_1_8
  | _ => []
theorem pm_tc_in {k : Nat} {w : Cond} (h : w ∈ pm_tc k) : w ∈ lw_tbl := by
  unfold lw_tbl tables_1
  simp only [List.mem_append]
  unfold pm_tc at h
  split at h
  all_goals first | (cases h; done) | (simp [h]; done)
def pm_wb (i : Nat) (w : Cond) : Bool := decide ((pm_tc (i / 1000))[i % 1000]? = some w) && goodWord w
theorem pm_wb_in {i : Nat} {w : Cond} (h : pm_wb i w = true) : w ∈ pm_tbl := by
  simp only [pm_wb, Bool.and_eq_true, decide_eq_true_eq] at h
  exact List.mem_filter.mpr ⟨pm_tc_in (List.mem_of_getElem? h.1), h.2⟩
def pm_fl (own : String) (idx n h : Nat) : Bool := match pm_cl[n / 64]? with
  | some r => decide (n / 64 < 11) && (decide (n % 64 < r.2.2) && pm_wb h (.fieldLink own idx (r.2.1 (n % 64)).1 (r.2.1 (n % 64)).2.1 (r.2.1 (n % 64)).2.2.1))
  | none => false
def pm_fi (own : String) (ini : Bool) (n : Nat) : Bool := match pm_cl[n / 64]? with
  | some r => !(r.2.1 (n % 64)).2.2.2 || (ini && decide ((r.2.1 (n % 64)).1 = own))
  | none => false
def pm_sl (own : String) (idx n h : Nat) : Bool := match pm_sts[n - 1]? with
  | some q => decide (q.2 = n) && (decide (n < 8) && (pm_wb h (.fieldLink own idx "QuestionDesk" q.1 "[I") || decide (pm_nwf[h - 90000]? = some (own, idx, q.1))))
  | none => false
def pm_nl (own : String) (idx ci h : Nat) : Bool := match pm_cl[ci]? with
  | some r => decide (ci < 11) && pm_wb h (.classLink own idx r.1)
  | none => false
def pm_rl (own : String) (ini : Bool) (i : Instr) (len : Nat) (op : Instr) (h : Nat) : Bool := match op with
  | .iconst n => (match i with
    | .iconst k => decide (Int32.ofInt k = Int32.ofInt n) && decide (len = 1)
    | .bipush k => decide ((Int8.ofInt k).toInt32 = Int32.ofInt n) && decide (len = 2)
    | .sipush k => decide ((Int16.ofInt k).toInt32 = Int32.ofInt n) && decide (len = 3)
    | .ldc k => pm_wb h (.constant own k (Int32.ofInt n)) && decide (len = 2)
    | .ldc_w k => pm_wb h (.constant own k (Int32.ofInt n)) && decide (len = 3)
    | _ => false)
  | .goto_w n => (match i with
    | .lconst k => decide (Int64.ofNat (k : Nat) = Int64.ofInt n) && decide (len = 1)
    | .ldc2_w k => pm_wb h (.constantLong own k (Int64.ofInt n)) && decide (len = 3)
    | _ => false)
  | .iload k => (match i with
    | .iload j => decide (j = k) && decide (len = 2)
    | .iload_n j => decide ((j : Nat) = k) && decide (len = 1)
    | _ => false)
  | .istore k => (match i with
    | .istore j => decide (j = k) && decide (len = 2)
    | .istore_n j => decide ((j : Nat) = k) && decide (len = 1)
    | _ => false)
  | .lload k => (match i with
    | .lload j => decide (j = k) && decide (len = 2)
    | .lload_n j => decide ((j : Nat) = k) && decide (len = 1)
    | _ => false)
  | .lstore k => (match i with
    | .lstore j => decide (j = k) && decide (len = 2)
    | .lstore_n j => decide ((j : Nat) = k) && decide (len = 1)
    | _ => false)
  | .aload k => (match i with
    | .aload j => decide (j = k) && decide (len = 2)
    | .aload_n j => decide ((j : Nat) = k) && decide (len = 1)
    | _ => false)
  | .astore k => (match i with
    | .astore j => decide (j = k) && decide (len = 2)
    | .astore_n j => decide ((j : Nat) = k) && decide (len = 1)
    | _ => false)
  | .iinc k n => decide (i = .iinc k n) && decide (len = 3)
  | .getfield n => (match i with
    | .getfield idx => pm_fl own idx n h && decide (len = 3)
    | _ => false)
  | .putfield n => (match i with
    | .putfield idx => pm_fl own idx n h && (pm_fi own ini n && decide (len = 3))
    | _ => false)
  | .getstatic n => (match i with
    | .getstatic idx => pm_sl own idx n h && decide (len = 3)
    | _ => false)
  | .new ci => (match i with
    | .new idx => pm_nl own idx ci h && decide (len = 3)
    | _ => false)
  | .newarray a => decide (i = .newarray a) && (decide (a = .int ∨ a = .long) && decide (len = 2))
  | .anewarray t => (match i with
    | .anewarray idx => decide (2 ≤ t ∧ t < 5) && (pm_nl own idx (pm_ac t) h && decide (len = 3))
    | _ => false)
  | .swap => (match i with
    | .invokestatic idx => pm_wb h (.methodLink own idx arraycopyName) && decide (len = 3)
    | _ => false)
  | .dup_x1 => (match i with
    | .invokestatic idx => pm_wb h (.methodLink own idx Lib.Math.max.name) && decide (len = 3)
    | _ => false)
  | .dup_x2 => (match i with
    | .invokestatic idx => pm_wb h (.methodLink own idx Lib.Math.min.name) && decide (len = 3)
    | _ => false)
  | .monitorenter => (match i with
    | .invokespecial idx => pm_wb h (.methodLink own idx Lib.objectInit) && decide (len = 3)
    | _ => false)
  | .iadd => decide (i = .iadd) && decide (len = 1)
  | .isub => decide (i = .isub) && decide (len = 1)
  | .imul => decide (i = .imul) && decide (len = 1)
  | .idiv => decide (i = .idiv) && decide (len = 1)
  | .irem => decide (i = .irem) && decide (len = 1)
  | .iand => decide (i = .iand) && decide (len = 1)
  | .ior => decide (i = .ior) && decide (len = 1)
  | .ixor => decide (i = .ixor) && decide (len = 1)
  | .ishl => decide (i = .ishl) && decide (len = 1)
  | .ishr => decide (i = .ishr) && decide (len = 1)
  | .iushr => decide (i = .iushr) && decide (len = 1)
  | .ineg => decide (i = .ineg) && decide (len = 1)
  | .i2l => decide (i = .i2l) && decide (len = 1)
  | .i2b => decide (i = .i2b) && decide (len = 1)
  | .i2s => decide (i = .i2s) && decide (len = 1)
  | .l2i => decide (i = .l2i) && decide (len = 1)
  | .ladd => decide (i = .ladd) && decide (len = 1)
  | .lmul => decide (i = .lmul) && decide (len = 1)
  | .lcmp => decide (i = .lcmp) && decide (len = 1)
  | .iaload => decide (i = .iaload) && decide (len = 1)
  | .laload => decide (i = .laload) && decide (len = 1)
  | .aaload => decide (i = .aaload) && decide (len = 1)
  | .iastore => decide (i = .iastore) && decide (len = 1)
  | .lastore => decide (i = .lastore) && decide (len = 1)
  | .aastore => decide (i = .aastore) && decide (len = 1)
  | .arraylength => decide (i = .arraylength) && decide (len = 1)
  | .dup => decide (i = .dup) && decide (len = 1)
  | .dup2 => decide (i = .dup2) && decide (len = 1)
  | .pop => decide (i = .pop) && decide (len = 1)
  | .pop2 => decide (i = .pop2) && decide (len = 1)
  | .aconst_null => decide (i = .aconst_null) && decide (len = 1)
  | _ => false
theorem pm_w_int : Cond.arrayClass .int ∈ pm_tbl := (pm_in (ws := [Cond.arrayClass .int]) (by decide +kernel) (by decide +kernel)) _ List.mem_cons_self
theorem pm_w_long : Cond.arrayClass .long ∈ pm_tbl := (pm_in (ws := [Cond.arrayClass .long]) (by decide +kernel) (by decide +kernel)) _ List.mem_cons_self
theorem pm_w_objI : ∀ w ∈ [Cond.instanceMethod Lib.objectInit, Cond.code Lib.objectInit ⟨#[0xb1]⟩ 1 none], w ∈ pm_tbl := pm_in (by decide +kernel) (by decide +kernel)
theorem pm_w_cpy : ∀ w ∈ [Cond.native arraycopyName, Cond.static arraycopyName, Cond.initialized "java/lang/System"], w ∈ pm_tbl := pm_in (by decide +kernel) (by decide +kernel)
theorem pm_w_math : ∀ w ∈ [Cond.static Lib.Math.max.name, Cond.static Lib.Math.min.name, Cond.initialized "java/lang/Math", Cond.code Lib.Math.max.name Lib.Math.max.code 2 (some .int), Cond.code Lib.Math.min.name Lib.Math.min.code 2 (some .int)], w ∈ pm_tbl := pm_in (by decide +kernel) (by decide +kernel)
def pm_cw : List Cond := (pm_cl.take 11).flatMap (fun r => [Cond.instantiable r.1 r.2.2, Cond.initialized r.1])
theorem pm_w_cls : ∀ w ∈ pm_cw, w ∈ pm_tbl := pm_in (by decide +kernel) (by decide +kernel)
theorem pm_cls2 {ci : Nat} {r : vw_C} (h : pm_cl[ci]? = some r) (hc : ci < 11) : Cond.instantiable r.1 r.2.2 ∈ pm_tbl ∧ Cond.initialized r.1 ∈ pm_tbl := by
  have hm : r ∈ pm_cl.take 11 := List.mem_of_getElem? (i := ci) (by rw [List.getElem?_take, if_pos hc]; exact h)
  exact ⟨pm_w_cls _ (List.mem_flatMap.mpr ⟨r, hm, by simp⟩), pm_w_cls _ (List.mem_flatMap.mpr ⟨r, hm, by simp⟩)⟩
section PMK
variable {p : Program} {l : Launch} {e : Env} {R : Room} {s : State} {m : MethodId} {args : Array Value} {below : List Frame} {meth : Method} {c : Code} {Q : State → Prop} {cc : ByteArray} {nL : Nat} {own : String} {sa : Nat → Nat} {base : Nat} {dC : Nat → ClassId} {dI : Nat → Nat → Nat} {dA : Nat → ClassId} {X : pm_X} {n0 sl0 nf slf pc : Nat} {f f' : pm_F}
set_option maxHeartbeats 4000000 in
theorem pm_op_ok (C : pm_C p R s m args meth c cc nL own sa base dC dI dA X n0 sl0 nf slf) {ini : Bool} {i op : Instr} {len h : Nat} (hini : ini = true → meth.name = "<init>") (hr : pm_rl own ini i len op h = true) (hdg : decode cc pc = .ok (i, len)) (hop : pm_op X op f = some f') (hnf : f'.2.2.1.length ≤ nf ∧ f'.2.2.2 ≤ slf) : pm_Go p l e R s m args below meth c Q nL sa base dC dI dA n0 sl0 pc (pc + len) f f' := by
  cases op
  case iadd =>
    simp only [pm_rl, Bool.and_eq_true, decide_eq_true_eq] at hr
    obtain ⟨rfl, rfl⟩ := hr
    exact pm_s_iadd C hdg hop
  case isub =>
    simp only [pm_rl, Bool.and_eq_true, decide_eq_true_eq] at hr
    obtain ⟨rfl, rfl⟩ := hr
    exact pm_s_isub C hdg hop
  case imul =>
    simp only [pm_rl, Bool.and_eq_true, decide_eq_true_eq] at hr
    obtain ⟨rfl, rfl⟩ := hr
    exact pm_s_imul C hdg hop
  case idiv =>
    simp only [pm_rl, Bool.and_eq_true, decide_eq_true_eq] at hr
    obtain ⟨rfl, rfl⟩ := hr
    exact pm_s_idiv C hdg hop
  case irem =>
    simp only [pm_rl, Bool.and_eq_true, decide_eq_true_eq] at hr
    obtain ⟨rfl, rfl⟩ := hr
    exact pm_s_irem C hdg hop
  case iand =>
    simp only [pm_rl, Bool.and_eq_true, decide_eq_true_eq] at hr
    obtain ⟨rfl, rfl⟩ := hr
    exact pm_s_iand C hdg hop
  case ior =>
    simp only [pm_rl, Bool.and_eq_true, decide_eq_true_eq] at hr
    obtain ⟨rfl, rfl⟩ := hr
    exact pm_s_ior C hdg hop
  case ixor =>
    simp only [pm_rl, Bool.and_eq_true, decide_eq_true_eq] at hr
    obtain ⟨rfl, rfl⟩ := hr
    exact pm_s_ixor C hdg hop
  case ishl =>
    simp only [pm_rl, Bool.and_eq_true, decide_eq_true_eq] at hr
    obtain ⟨rfl, rfl⟩ := hr
    exact pm_s_ishl C hdg hop
  case ishr =>
    simp only [pm_rl, Bool.and_eq_true, decide_eq_true_eq] at hr
    obtain ⟨rfl, rfl⟩ := hr
    exact pm_s_ishr C hdg hop
  case iushr =>
    simp only [pm_rl, Bool.and_eq_true, decide_eq_true_eq] at hr
    obtain ⟨rfl, rfl⟩ := hr
    exact pm_s_iushr C hdg hop
  case ineg =>
    simp only [pm_rl, Bool.and_eq_true, decide_eq_true_eq] at hr
    obtain ⟨rfl, rfl⟩ := hr
    exact pm_s_ineg C hdg hop
  case i2l =>
    simp only [pm_rl, Bool.and_eq_true, decide_eq_true_eq] at hr
    obtain ⟨rfl, rfl⟩ := hr
    exact pm_s_i2l C hdg hop
  case i2b =>
    simp only [pm_rl, Bool.and_eq_true, decide_eq_true_eq] at hr
    obtain ⟨rfl, rfl⟩ := hr
    exact pm_s_i2b C hdg hop
  case i2s =>
    simp only [pm_rl, Bool.and_eq_true, decide_eq_true_eq] at hr
    obtain ⟨rfl, rfl⟩ := hr
    exact pm_s_i2s C hdg hop
  case l2i =>
    simp only [pm_rl, Bool.and_eq_true, decide_eq_true_eq] at hr
    obtain ⟨rfl, rfl⟩ := hr
    exact pm_s_l2i C hdg hop
  case ladd =>
    simp only [pm_rl, Bool.and_eq_true, decide_eq_true_eq] at hr
    obtain ⟨rfl, rfl⟩ := hr
    exact pm_s_ladd C hdg hop
  case lmul =>
    simp only [pm_rl, Bool.and_eq_true, decide_eq_true_eq] at hr
    obtain ⟨rfl, rfl⟩ := hr
    exact pm_s_lmul C hdg hop
  case lcmp =>
    simp only [pm_rl, Bool.and_eq_true, decide_eq_true_eq] at hr
    obtain ⟨rfl, rfl⟩ := hr
    exact pm_s_lcmp C hdg hop
  case iaload =>
    simp only [pm_rl, Bool.and_eq_true, decide_eq_true_eq] at hr
    obtain ⟨rfl, rfl⟩ := hr
    exact pm_s_iald C hdg hop
  case laload =>
    simp only [pm_rl, Bool.and_eq_true, decide_eq_true_eq] at hr
    obtain ⟨rfl, rfl⟩ := hr
    exact pm_s_lald C hdg hop
  case aaload =>
    simp only [pm_rl, Bool.and_eq_true, decide_eq_true_eq] at hr
    obtain ⟨rfl, rfl⟩ := hr
    exact pm_s_aald C hdg hop
  case iastore =>
    simp only [pm_rl, Bool.and_eq_true, decide_eq_true_eq] at hr
    obtain ⟨rfl, rfl⟩ := hr
    exact pm_s_iast C hdg hop
  case lastore =>
    simp only [pm_rl, Bool.and_eq_true, decide_eq_true_eq] at hr
    obtain ⟨rfl, rfl⟩ := hr
    exact pm_s_last C hdg hop
  case aastore =>
    simp only [pm_rl, Bool.and_eq_true, decide_eq_true_eq] at hr
    obtain ⟨rfl, rfl⟩ := hr
    exact pm_s_aast C hdg hop
  case arraylength =>
    simp only [pm_rl, Bool.and_eq_true, decide_eq_true_eq] at hr
    obtain ⟨rfl, rfl⟩ := hr
    exact pm_s_alen C hdg hop
  case dup =>
    simp only [pm_rl, Bool.and_eq_true, decide_eq_true_eq] at hr
    obtain ⟨rfl, rfl⟩ := hr
    exact pm_s_dup C hdg hop
  case dup2 =>
    simp only [pm_rl, Bool.and_eq_true, decide_eq_true_eq] at hr
    obtain ⟨rfl, rfl⟩ := hr
    exact pm_s_dup2 C hdg hop
  case pop =>
    simp only [pm_rl, Bool.and_eq_true, decide_eq_true_eq] at hr
    obtain ⟨rfl, rfl⟩ := hr
    exact pm_s_pop C hdg hop
  case pop2 =>
    simp only [pm_rl, Bool.and_eq_true, decide_eq_true_eq] at hr
    obtain ⟨rfl, rfl⟩ := hr
    exact pm_s_pop2 C hdg hop
  case aconst_null =>
    simp only [pm_rl, Bool.and_eq_true, decide_eq_true_eq] at hr
    obtain ⟨rfl, rfl⟩ := hr
    exact pm_s_null C hdg hop
  case iconst n =>
    simp only [pm_rl] at hr
    split at hr <;> simp only [Bool.and_eq_true, decide_eq_true_eq, Bool.false_eq_true] at hr
    · obtain ⟨h1, rfl⟩ := hr; exact pm_s_iconst C h1 hdg hop
    · obtain ⟨h1, rfl⟩ := hr; exact pm_s_bipush C h1 hdg hop
    · obtain ⟨h1, rfl⟩ := hr; exact pm_s_sipush C h1 hdg hop
    · obtain ⟨h1, rfl⟩ := hr; exact pm_s_ldc C (pm_wb_in h1) hdg hop
    · obtain ⟨h1, rfl⟩ := hr; exact pm_s_ldcw C (pm_wb_in h1) hdg hop
  case goto_w n =>
    simp only [pm_rl] at hr
    split at hr <;> simp only [Bool.and_eq_true, decide_eq_true_eq, Bool.false_eq_true] at hr
    · obtain ⟨h1, rfl⟩ := hr; exact pm_s_lconst C h1 hdg hop
    · obtain ⟨h1, rfl⟩ := hr; exact pm_s_ldc2 C (pm_wb_in h1) hdg hop
  case iload k =>
    simp only [pm_rl] at hr
    split at hr <;> simp only [Bool.and_eq_true, decide_eq_true_eq, Bool.false_eq_true] at hr
    · obtain ⟨rfl, rfl⟩ := hr; exact pm_s_iload C hdg hop
    · obtain ⟨h1, rfl⟩ := hr; exact pm_s_iload_n C h1 hdg hop
  case istore k =>
    simp only [pm_rl] at hr
    split at hr <;> simp only [Bool.and_eq_true, decide_eq_true_eq, Bool.false_eq_true] at hr
    · obtain ⟨rfl, rfl⟩ := hr; exact pm_s_istore C hdg hop
    · obtain ⟨h1, rfl⟩ := hr; exact pm_s_istore_n C h1 hdg hop
  case lload k =>
    simp only [pm_rl] at hr
    split at hr <;> simp only [Bool.and_eq_true, decide_eq_true_eq, Bool.false_eq_true] at hr
    · obtain ⟨rfl, rfl⟩ := hr; exact pm_s_lload C hdg hop
    · obtain ⟨h1, rfl⟩ := hr; exact pm_s_lload_n C h1 hdg hop
  case lstore k =>
    simp only [pm_rl] at hr
    split at hr <;> simp only [Bool.and_eq_true, decide_eq_true_eq, Bool.false_eq_true] at hr
    · obtain ⟨rfl, rfl⟩ := hr; exact pm_s_lstore C hdg hop
    · obtain ⟨h1, rfl⟩ := hr; exact pm_s_lstore_n C h1 hdg hop
  case aload k =>
    simp only [pm_rl] at hr
    split at hr <;> simp only [Bool.and_eq_true, decide_eq_true_eq, Bool.false_eq_true] at hr
    · obtain ⟨rfl, rfl⟩ := hr; exact pm_s_aload C hdg hop
    · obtain ⟨h1, rfl⟩ := hr; exact pm_s_aload_n C h1 hdg hop
  case astore k =>
    simp only [pm_rl] at hr
    split at hr <;> simp only [Bool.and_eq_true, decide_eq_true_eq, Bool.false_eq_true] at hr
    · obtain ⟨rfl, rfl⟩ := hr; exact pm_s_astore C hdg hop
    · obtain ⟨h1, rfl⟩ := hr; exact pm_s_astore_n C h1 hdg hop
  case iinc k n =>
    simp only [pm_rl, Bool.and_eq_true, decide_eq_true_eq] at hr
    obtain ⟨rfl, rfl⟩ := hr
    exact pm_s_iinc C hdg hop
  case getfield n =>
    simp only [pm_rl] at hr
    split at hr <;> simp only [Bool.and_eq_true, decide_eq_true_eq, Bool.false_eq_true] at hr
    obtain ⟨h1, rfl⟩ := hr
    unfold pm_fl at h1
    split at h1
    · rename_i r hc
      simp only [Bool.and_eq_true, decide_eq_true_eq] at h1
      exact pm_s_getf C hc h1.1 h1.2.1 (pm_wb_in h1.2.2) hdg hop
    · cases h1
  case putfield n =>
    simp only [pm_rl] at hr
    split at hr <;> simp only [Bool.and_eq_true, decide_eq_true_eq, Bool.false_eq_true] at hr
    obtain ⟨h1, h2, rfl⟩ := hr
    unfold pm_fl at h1
    unfold pm_fi at h2
    split at h1
    · rename_i r hc
      rw [hc] at h2
      simp only [Bool.and_eq_true, decide_eq_true_eq, Bool.or_eq_true, Bool.not_eq_true'] at h1 h2
      refine pm_s_putf C hc h1.1 h1.2.1 (pm_wb_in h1.2.2) ?_ hdg hop
      cases hfb : (r.2.1 (n % 64)).2.2.2 with
      | false => exact Or.inl rfl
      | true =>
        rw [hfb] at h2
        rcases h2 with h2 | h2
        · cases h2
        · exact Or.inr ⟨rfl, hini h2.1, h2.2⟩
    · cases h1
  case getstatic n =>
    simp only [pm_rl] at hr
    split at hr <;> simp only [Bool.and_eq_true, decide_eq_true_eq, Bool.false_eq_true] at hr
    obtain ⟨h1, rfl⟩ := hr
    unfold pm_sl at h1
    split at h1
    · rename_i q hq
      simp only [Bool.and_eq_true, decide_eq_true_eq, Bool.or_eq_true] at h1
      refine pm_s_gets C (List.mem_of_getElem? hq) h1.1 h1.2.1 ?_ hdg hop
      rcases h1.2.2 with h2 | h2
      · exact Or.inl (pm_wb_in h2)
      · exact Or.inr (List.mem_of_getElem? h2)
    · cases h1
  case new ci =>
    simp only [pm_rl] at hr
    split at hr <;> simp only [Bool.and_eq_true, decide_eq_true_eq, Bool.false_eq_true] at hr
    obtain ⟨h1, rfl⟩ := hr
    unfold pm_nl at h1
    split at h1
    · rename_i r hc
      simp only [Bool.and_eq_true, decide_eq_true_eq] at h1
      exact pm_s_new C hc h1.1 (pm_wb_in h1.2) (pm_cls2 hc h1.1).1 (pm_cls2 hc h1.1).2 hdg hop hnf
    · cases h1
  case newarray a =>
    simp only [pm_rl, Bool.and_eq_true, decide_eq_true_eq] at hr
    obtain ⟨rfl, ha, rfl⟩ := hr
    rcases ha with rfl | rfl
    · exact pm_s_newa C (t := 0) (k := fun n => (n, .inl (fun _ => 0))) (ty := .int) pm_w_int rfl (by decide) rfl (fun _ _ h => h) (fun _ _ => rfl) (fun _ => rfl) hdg hop hnf
    · exact pm_s_newa C (t := 1) (k := fun n => (n, .inr (.inl (fun _ => 0)))) (ty := .long) pm_w_long rfl (by decide) rfl (fun _ _ h => h) (fun _ _ => rfl) (fun _ => rfl) hdg hop hnf
  case anewarray t =>
    simp only [pm_rl] at hr
    split at hr <;> simp only [Bool.and_eq_true, decide_eq_true_eq, Bool.false_eq_true] at hr
    obtain ⟨h0, h1, rfl⟩ := hr
    unfold pm_nl at h1
    split at h1
    · rename_i r hc
      simp only [Bool.and_eq_true, decide_eq_true_eq] at h1
      have hop' : pm_newa t (fun n => (n, .inr (.inr (.inr (.inr (fun _ => none)))))) f = some f' := by
        simp only [pm_op] at hop
        rw [if_pos h0] at hop
        exact hop
      refine pm_s_anew C hc h0 (pm_wb_in h1.2) ?_ hdg hop' hnf
      rcases (show t = 2 ∨ t = 3 ∨ t = 4 by omega) with rfl | rfl | rfl <;> cases hc <;> simp
    · cases h1
  case swap =>
    simp only [pm_rl] at hr
    split at hr <;> simp only [Bool.and_eq_true, decide_eq_true_eq, Bool.false_eq_true] at hr
    obtain ⟨h1, rfl⟩ := hr
    exact pm_s_copy C (pm_wb_in h1) (pm_w_cpy _ (by simp)) (pm_w_cpy _ (by simp)) (pm_w_cpy _ (by simp)) hdg hop
  case dup_x1 =>
    simp only [pm_rl] at hr
    split at hr <;> simp only [Bool.and_eq_true, decide_eq_true_eq, Bool.false_eq_true] at hr
    obtain ⟨h1, rfl⟩ := hr
    exact pm_s_max C (pm_wb_in h1) (pm_w_math _ (by simp)) (pm_w_math _ (by simp)) (pm_w_math _ (by simp)) hdg hop hnf
  case dup_x2 =>
    simp only [pm_rl] at hr
    split at hr <;> simp only [Bool.and_eq_true, decide_eq_true_eq, Bool.false_eq_true] at hr
    obtain ⟨h1, rfl⟩ := hr
    exact pm_s_min C (pm_wb_in h1) (pm_w_math _ (by simp)) (pm_w_math _ (by simp)) (pm_w_math _ (by simp)) hdg hop hnf
  case monitorenter =>
    simp only [pm_rl] at hr
    split at hr <;> simp only [Bool.and_eq_true, decide_eq_true_eq, Bool.false_eq_true] at hr
    obtain ⟨h1, rfl⟩ := hr
    exact pm_s_oini C (pm_wb_in h1) (pm_w_objI _ (by simp)) (pm_w_objI _ (by simp)) hdg hop
  all_goals (simp only [pm_rl, Bool.false_eq_true] at hr)
end PMK
