/-! the ops of the pure machine are the machine's: those of stack and locals -/
def pm_tys (dA : Nat → ClassId) : List (ClassId × FieldType) := [(dA 0, .int), (dA 1, .long), (dA 2, .object RX3), (dA 3, .object RX8), (dA 4, .object RX7)]
def pm_sts : List (String × Nat) := [("MOST_NUMBER", 1), ("LIKING_PLACES", 2), ("FIRST_TWO_CHANGED", 3), ("LAST_TWO_CHANGED", 4)]
def pm_nwm : List (String × Nat × MethodName) := [("QuestionDesk$Chamber", 27, ⟨"QuestionDesk$Member", "<init>", "()V"⟩), ("QuestionDesk", 27, ⟨"QuestionDesk$Reader", "<init>", "()V"⟩), ("QuestionDesk$Hall", 42, ⟨"QuestionDesk$Member", "<init>", "()V"⟩), ("QuestionDesk", 41, ⟨"QuestionDesk$Orders", "<init>", "()V"⟩), ("QuestionDesk", 64, ⟨"QuestionDesk$Shelf", "<init>", "()V"⟩), ("QuestionDesk$Shelf", 11, ⟨"QuestionDesk$Member", "<init>", "()V"⟩), ("QuestionDesk$Chamber", 31, ⟨"QuestionDesk", "within", "(III)Z"⟩), ("QuestionDesk$Reader", 73, ⟨"QuestionDesk", "within", "(III)Z"⟩), ("QuestionDesk$Orders", 44, ⟨"QuestionDesk", "within", "(III)Z"⟩), ("QuestionDesk$Shelf", 38, ⟨"QuestionDesk", "within", "(III)Z"⟩)]
def pm_nwf : List (String × Nat × String) := [("QuestionDesk$Laws", 58, "LIKING_PLACES"), ("QuestionDesk$Laws", 61, "FIRST_TWO_CHANGED"), ("QuestionDesk$Laws", 64, "LAST_TWO_CHANGED")]
def pm_tbl : List Cond := lw_tbl.filter goodWord
/-- a read-only int array: n ints f -/
def pm_RO (b n : Nat) (f : Nat → Int32) (U : State) (H : Heap) : Prop := ∃ scr : Cell, H[b]? = some scr ∧ U.isArrayOf scr .int ∧ scr.vm ≠ .unknown ∧ n ≤ scr.slots.size ∧ scr.slots.size.toInt32 = Int32.ofNat n ∧ ∀ j : Nat, j < n → scr.slots[j]? = some (.int (f j))
theorem pm_RO.kept {b n : Nat} {f : Nat → Int32} {U : State} {H H1 : Heap} (h : pm_RO b n f U H) (hq : H1[b]? = H[b]?) : pm_RO b n f U H1 := by
  obtain ⟨scr, h1, h2⟩ := h
  exact ⟨scr, by rw [hq]; exact h1, h2⟩
theorem pm_RO.moved {b n : Nat} {f : Nat → Int32} {u U : State} {H : Heap} (hvm : u.vm.Alike U.vm) (h : pm_RO b n f u H) : pm_RO b n f U H := by
  obtain ⟨scr, h1, h2, h3⟩ := h
  exact ⟨scr, h1, State.isArrayOf_alike hvm h2, h3⟩
/-- what a state's tables, statics and read-only arrays are -/
def pm_K (sa : Nat → Nat) (base : Nat) (dC : Nat → ClassId) (dI : Nat → Nat → Nat) (dA : Nat → ClassId) (X : pm_X) (U : State) : Prop :=
  va_K (dC, dI) pm_cl (pm_tys dA) U ∧ (∀ (k n : Nat) (f : Nat → Int32), X k = some (n, f) → pm_RO (sa k) n f U U.heap ∧ sa k < base) ∧
  (∀ q ∈ pm_sts, va_Z "QuestionDesk" q.1 "[I" (.ref (sa q.2)) (fun a : Nat => base ≤ a) U U.heap) ∧
  (∀ q ∈ pm_nwm, va_Nw (.methodLinkNest q.1 q.2.1 q.2.2 "QuestionDesk") U) ∧ (∀ q ∈ pm_nwf, va_Nw (.fieldLinkNest q.1 q.2.1 "QuestionDesk" q.2.2 "[I" "QuestionDesk") U) ∧ base ≤ U.heap.size ∧ (∀ C ∈ [RX3, RX8, RX7], va_AO C U)
def pm_C (p : Program) (R : Room) (s : State) (m : MethodId) (args : Array Value) (meth : Method) (c : Code) (cc : ByteArray) (nL : Nat) (own : String) (sa : Nat → Nat) (base : Nat) (dC : Nat → ClassId) (dI : Nat → Nat → Nat) (dA : Nat → ClassId) (X : pm_X) (n0 sl0 nf slf : Nat) : Prop :=
  p.tables.exec = Jvm.exec ∧ c.code = cc ∧ c.maxLocals = nL ∧ s.vm.findClass own = some m.cls ∧ (∀ w ∈ pm_tbl, w.before args s = true) ∧ meth.locks = false ∧ pm_K sa base dC dI dA X s ∧ nf ≤ n0 + R.cells ∧ slf ≤ sl0 + R.slots ∧ 1 ≤ R.frames ∧ 64 ≤ R.locals
def pm_R (sa : Nat → Nat) (base : Nat) (dC : Nat → ClassId) (dI : Nat → Nat → Nat) (dA : Nat → ClassId) (s : State) (nL n0 sl0 : Nat) (f : pm_F) (H : Heap) (locs : List Loc) (ls : Array Slot) (cells slots : Nat) : Prop :=
  pm_LR (pm_ad sa base) nL f.1 ls ∧ va_P (dC, dI) pm_cl (pm_W (pm_ad sa base) base dA f.2.2.1) H ∧ H.size = base + f.2.2.1.length ∧ va_S (fun q : Nat => base ≤ q) s.heap H locs ∧ n0 + cells = f.2.2.1.length ∧ sl0 + slots = f.2.2.2
/-- from pc with f to pc' with f' -/
def pm_Go (p : Program) (l : Launch) (e : Env) (R : Room) (s : State) (m : MethodId) (args : Array Value) (below : List Frame) (meth : Method) (c : Code) (Q : State → Prop) (nL : Nat) (sa : Nat → Nat) (base : Nat) (dC : Nat → ClassId) (dI : Nat → Nat → Nat) (dA : Nat → ClassId) (n0 sl0 : Nat) (pc pc' : Nat) (f f' : pm_F) : Prop :=
  ∀ (H : Heap) (locs : List Loc) (ls : Array Slot) (cells slots : Nat), pm_R sa base dC dI dA s nL n0 sl0 f H locs ls cells slots →
    (∀ (H1 : Heap) (locs1 : List Loc) (ls1 : Array Slot) (cells1 slots1 : Nat), pm_R sa base dC dI dA s nL n0 sl0 f' H1 locs1 ls1 cells1 slots1 → W p l e R s m args below meth c H1 locs1 cells1 slots1 Q (F0 m pc' ls1 (f'.2.1.map (pm_cv (pm_ad sa base))))) →
    W p l e R s m args below meth c H locs cells slots Q (F0 m pc ls (f.2.1.map (pm_cv (pm_ad sa base))))
section PMO
variable {p : Program} {l : Launch} {e : Env} {R : Room} {s : State} {m : MethodId} {args : Array Value} {below : List Frame} {meth : Method} {c : Code} {Q : State → Prop} {cc : ByteArray} {nL : Nat} {own : String} {sa : Nat → Nat} {base : Nat} {dC : Nat → ClassId} {dI : Nat → Nat → Nat} {dA : Nat → ClassId} {X : pm_X} {n0 sl0 nf slf pc : Nat} {f f' : pm_F}
theorem pm_s_iadd (C : pm_C p R s m args meth c cc nL own sa base dC dI dA X n0 sl0 nf slf) (hdg : decode cc pc = .ok (.iadd, 1)) (hop : pm_b2 (fun x y => some (.int (x + y))) f = some f') : pm_Go p l e R s m args below meth c Q nL sa base dC dI dA n0 sl0 pc (pc + 1) f f' := by
  obtain ⟨hx, hb, hml, hown, hts, hlk, hK, hc1, hc2, hf1, hl1⟩ := C
  obtain ⟨L, st, S⟩ := f
  intro H locs ls cells slots hR kk
  unfold pm_b2 at hop
  split at hop
  · rename_i y x st2 hst
    simp only at hst hop
    subst hst
    cases hop
    exact lv_iadd hx hb hdg (kk _ _ _ _ _ hR)
  · cases hop
theorem pm_s_isub (C : pm_C p R s m args meth c cc nL own sa base dC dI dA X n0 sl0 nf slf) (hdg : decode cc pc = .ok (.isub, 1)) (hop : pm_b2 (fun x y => some (.int (x - y))) f = some f') : pm_Go p l e R s m args below meth c Q nL sa base dC dI dA n0 sl0 pc (pc + 1) f f' := by
  obtain ⟨hx, hb, hml, hown, hts, hlk, hK, hc1, hc2, hf1, hl1⟩ := C
  obtain ⟨L, st, S⟩ := f
  intro H locs ls cells slots hR kk
  unfold pm_b2 at hop
  split at hop
  · rename_i y x st2 hst
    simp only at hst hop
    subst hst
    cases hop
    exact lv_isub hx hb hdg (kk _ _ _ _ _ hR)
  · cases hop
theorem pm_s_imul (C : pm_C p R s m args meth c cc nL own sa base dC dI dA X n0 sl0 nf slf) (hdg : decode cc pc = .ok (.imul, 1)) (hop : pm_b2 (fun x y => some (.int (x * y))) f = some f') : pm_Go p l e R s m args below meth c Q nL sa base dC dI dA n0 sl0 pc (pc + 1) f f' := by
  obtain ⟨hx, hb, hml, hown, hts, hlk, hK, hc1, hc2, hf1, hl1⟩ := C
  obtain ⟨L, st, S⟩ := f
  intro H locs ls cells slots hR kk
  unfold pm_b2 at hop
  split at hop
  · rename_i y x st2 hst
    simp only at hst hop
    subst hst
    cases hop
    exact lv_imul hx hb hdg (kk _ _ _ _ _ hR)
  · cases hop
theorem pm_s_iand (C : pm_C p R s m args meth c cc nL own sa base dC dI dA X n0 sl0 nf slf) (hdg : decode cc pc = .ok (.iand, 1)) (hop : pm_b2 (fun x y => some (.int (x &&& y))) f = some f') : pm_Go p l e R s m args below meth c Q nL sa base dC dI dA n0 sl0 pc (pc + 1) f f' := by
  obtain ⟨hx, hb, hml, hown, hts, hlk, hK, hc1, hc2, hf1, hl1⟩ := C
  obtain ⟨L, st, S⟩ := f
  intro H locs ls cells slots hR kk
  unfold pm_b2 at hop
  split at hop
  · rename_i y x st2 hst
    simp only at hst hop
    subst hst
    cases hop
    exact lv_iand hx hb hdg (kk _ _ _ _ _ hR)
  · cases hop
theorem pm_s_ior (C : pm_C p R s m args meth c cc nL own sa base dC dI dA X n0 sl0 nf slf) (hdg : decode cc pc = .ok (.ior, 1)) (hop : pm_b2 (fun x y => some (.int (x ||| y))) f = some f') : pm_Go p l e R s m args below meth c Q nL sa base dC dI dA n0 sl0 pc (pc + 1) f f' := by
  obtain ⟨hx, hb, hml, hown, hts, hlk, hK, hc1, hc2, hf1, hl1⟩ := C
  obtain ⟨L, st, S⟩ := f
  intro H locs ls cells slots hR kk
  unfold pm_b2 at hop
  split at hop
  · rename_i y x st2 hst
    simp only at hst hop
    subst hst
    cases hop
    exact lv_ior hx hb hdg (kk _ _ _ _ _ hR)
  · cases hop
theorem pm_s_ixor (C : pm_C p R s m args meth c cc nL own sa base dC dI dA X n0 sl0 nf slf) (hdg : decode cc pc = .ok (.ixor, 1)) (hop : pm_b2 (fun x y => some (.int (x ^^^ y))) f = some f') : pm_Go p l e R s m args below meth c Q nL sa base dC dI dA n0 sl0 pc (pc + 1) f f' := by
  obtain ⟨hx, hb, hml, hown, hts, hlk, hK, hc1, hc2, hf1, hl1⟩ := C
  obtain ⟨L, st, S⟩ := f
  intro H locs ls cells slots hR kk
  unfold pm_b2 at hop
  split at hop
  · rename_i y x st2 hst
    simp only at hst hop
    subst hst
    cases hop
    exact lv_ixor hx hb hdg (kk _ _ _ _ _ hR)
  · cases hop
theorem pm_s_ishl (C : pm_C p R s m args meth c cc nL own sa base dC dI dA X n0 sl0 nf slf) (hdg : decode cc pc = .ok (.ishl, 1)) (hop : pm_b2 (fun x y => some (.int (x <<< (y &&& 31)))) f = some f') : pm_Go p l e R s m args below meth c Q nL sa base dC dI dA n0 sl0 pc (pc + 1) f f' := by
  obtain ⟨hx, hb, hml, hown, hts, hlk, hK, hc1, hc2, hf1, hl1⟩ := C
  obtain ⟨L, st, S⟩ := f
  intro H locs ls cells slots hR kk
  unfold pm_b2 at hop
  split at hop
  · rename_i y x st2 hst
    simp only at hst hop
    subst hst
    cases hop
    exact lv_ishl hx hb hdg (kk _ _ _ _ _ hR)
  · cases hop
theorem pm_s_ishr (C : pm_C p R s m args meth c cc nL own sa base dC dI dA X n0 sl0 nf slf) (hdg : decode cc pc = .ok (.ishr, 1)) (hop : pm_b2 (fun x y => some (.int (x >>> (y &&& 31)))) f = some f') : pm_Go p l e R s m args below meth c Q nL sa base dC dI dA n0 sl0 pc (pc + 1) f f' := by
  obtain ⟨hx, hb, hml, hown, hts, hlk, hK, hc1, hc2, hf1, hl1⟩ := C
  obtain ⟨L, st, S⟩ := f
  intro H locs ls cells slots hR kk
  unfold pm_b2 at hop
  split at hop
  · rename_i y x st2 hst
    simp only at hst hop
    subst hst
    cases hop
    exact lv_ishr hx hb hdg (kk _ _ _ _ _ hR)
  · cases hop
theorem pm_s_iushr (C : pm_C p R s m args meth c cc nL own sa base dC dI dA X n0 sl0 nf slf) (hdg : decode cc pc = .ok (.iushr, 1)) (hop : pm_b2 (fun x y => some (.int ((x.toUInt32 >>> (y.toUInt32 &&& Int32.toUInt32 31)).toInt32))) f = some f') : pm_Go p l e R s m args below meth c Q nL sa base dC dI dA n0 sl0 pc (pc + 1) f f' := by
  obtain ⟨hx, hb, hml, hown, hts, hlk, hK, hc1, hc2, hf1, hl1⟩ := C
  obtain ⟨L, st, S⟩ := f
  intro H locs ls cells slots hR kk
  unfold pm_b2 at hop
  split at hop
  · rename_i y x st2 hst
    simp only at hst hop
    subst hst
    cases hop
    exact lv_iushr hx hb hdg rfl (kk _ _ _ _ _ hR)
  · cases hop
theorem pm_s_idiv (C : pm_C p R s m args meth c cc nL own sa base dC dI dA X n0 sl0 nf slf) (hdg : decode cc pc = .ok (.idiv, 1)) (hop : pm_b2 (fun x y => if y = 0 then none else some (.int (x / y))) f = some f') : pm_Go p l e R s m args below meth c Q nL sa base dC dI dA n0 sl0 pc (pc + 1) f f' := by
  obtain ⟨hx, hb, hml, hown, hts, hlk, hK, hc1, hc2, hf1, hl1⟩ := C
  obtain ⟨L, st, S⟩ := f
  intro H locs ls cells slots hR kk
  unfold pm_b2 at hop
  split at hop
  · rename_i y x st2 hst
    simp only at hst hop
    subst hst
    by_cases hy : y = 0
    · rw [if_pos hy] at hop; cases hop
    · rw [if_neg hy] at hop
      cases hop
      exact lv_idiv hx hb hdg hy (kk _ _ _ _ _ hR)
  · cases hop
theorem pm_s_irem (C : pm_C p R s m args meth c cc nL own sa base dC dI dA X n0 sl0 nf slf) (hdg : decode cc pc = .ok (.irem, 1)) (hop : pm_b2 (fun x y => if y = 0 then none else some (.int (x - x / y * y))) f = some f') : pm_Go p l e R s m args below meth c Q nL sa base dC dI dA n0 sl0 pc (pc + 1) f f' := by
  obtain ⟨hx, hb, hml, hown, hts, hlk, hK, hc1, hc2, hf1, hl1⟩ := C
  obtain ⟨L, st, S⟩ := f
  intro H locs ls cells slots hR kk
  unfold pm_b2 at hop
  split at hop
  · rename_i y x st2 hst
    simp only at hst hop
    subst hst
    by_cases hy : y = 0
    · rw [if_pos hy] at hop; cases hop
    · rw [if_neg hy] at hop
      cases hop
      exact lv_irem hx hb hdg hy (kk _ _ _ _ _ hR)
  · cases hop
theorem pm_s_ineg (C : pm_C p R s m args meth c cc nL own sa base dC dI dA X n0 sl0 nf slf) (hdg : decode cc pc = .ok (.ineg, 1)) (hop : pm_b1 (fun x => .int (-x)) f = some f') : pm_Go p l e R s m args below meth c Q nL sa base dC dI dA n0 sl0 pc (pc + 1) f f' := by
  obtain ⟨hx, hb, hml, hown, hts, hlk, hK, hc1, hc2, hf1, hl1⟩ := C
  obtain ⟨L, st, S⟩ := f
  intro H locs ls cells slots hR kk
  unfold pm_b1 at hop
  split at hop
  · rename_i x st2 hst
    simp only at hst hop
    subst hst
    cases hop
    exact lv_ineg hx hb hdg (kk _ _ _ _ _ hR)
  · cases hop
theorem pm_s_i2l (C : pm_C p R s m args meth c cc nL own sa base dC dI dA X n0 sl0 nf slf) (hdg : decode cc pc = .ok (.i2l, 1)) (hop : pm_b1 (fun x => .long x.toInt64) f = some f') : pm_Go p l e R s m args below meth c Q nL sa base dC dI dA n0 sl0 pc (pc + 1) f f' := by
  obtain ⟨hx, hb, hml, hown, hts, hlk, hK, hc1, hc2, hf1, hl1⟩ := C
  obtain ⟨L, st, S⟩ := f
  intro H locs ls cells slots hR kk
  unfold pm_b1 at hop
  split at hop
  · rename_i x st2 hst
    simp only at hst hop
    subst hst
    cases hop
    exact lv_i2l hx hb hdg rfl (kk _ _ _ _ _ hR)
  · cases hop
theorem pm_s_i2b (C : pm_C p R s m args meth c cc nL own sa base dC dI dA X n0 sl0 nf slf) (hdg : decode cc pc = .ok (.i2b, 1)) (hop : pm_b1 (fun x => .int x.toInt8.toInt32) f = some f') : pm_Go p l e R s m args below meth c Q nL sa base dC dI dA n0 sl0 pc (pc + 1) f f' := by
  obtain ⟨hx, hb, hml, hown, hts, hlk, hK, hc1, hc2, hf1, hl1⟩ := C
  obtain ⟨L, st, S⟩ := f
  intro H locs ls cells slots hR kk
  unfold pm_b1 at hop
  split at hop
  · rename_i x st2 hst
    simp only at hst hop
    subst hst
    cases hop
    exact lv_i2b hx hb hdg rfl (kk _ _ _ _ _ hR)
  · cases hop
theorem pm_s_i2s (C : pm_C p R s m args meth c cc nL own sa base dC dI dA X n0 sl0 nf slf) (hdg : decode cc pc = .ok (.i2s, 1)) (hop : pm_b1 (fun x => .int x.toInt16.toInt32) f = some f') : pm_Go p l e R s m args below meth c Q nL sa base dC dI dA n0 sl0 pc (pc + 1) f f' := by
  obtain ⟨hx, hb, hml, hown, hts, hlk, hK, hc1, hc2, hf1, hl1⟩ := C
  obtain ⟨L, st, S⟩ := f
  intro H locs ls cells slots hR kk
  unfold pm_b1 at hop
  split at hop
  · rename_i x st2 hst
    simp only at hst hop
    subst hst
    cases hop
    exact lv_i2s hx hb hdg rfl (kk _ _ _ _ _ hR)
  · cases hop
theorem pm_s_l2i (C : pm_C p R s m args meth c cc nL own sa base dC dI dA X n0 sl0 nf slf) (hdg : decode cc pc = .ok (.l2i, 1)) (hop : pm_op X .l2i f = some f') : pm_Go p l e R s m args below meth c Q nL sa base dC dI dA n0 sl0 pc (pc + 1) f f' := by
  obtain ⟨hx, hb, hml, hown, hts, hlk, hK, hc1, hc2, hf1, hl1⟩ := C
  obtain ⟨L, st, S⟩ := f
  intro H locs ls cells slots hR kk
  unfold pm_op at hop
  simp only at hop
  split at hop
  · cases hop
    exact lv_l2i hx hb hdg rfl (kk _ _ _ _ _ hR)
  · cases hop
theorem pm_s_ladd (C : pm_C p R s m args meth c cc nL own sa base dC dI dA X n0 sl0 nf slf) (hdg : decode cc pc = .ok (.ladd, 1)) (hop : pm_l2 (fun x y => .long (x + y)) f = some f') : pm_Go p l e R s m args below meth c Q nL sa base dC dI dA n0 sl0 pc (pc + 1) f f' := by
  obtain ⟨hx, hb, hml, hown, hts, hlk, hK, hc1, hc2, hf1, hl1⟩ := C
  obtain ⟨L, st, S⟩ := f
  intro H locs ls cells slots hR kk
  unfold pm_l2 at hop
  split at hop
  · rename_i y x st2 hst
    simp only at hst hop
    subst hst
    cases hop
    exact lv_ladd hx hb hdg (kk _ _ _ _ _ hR)
  · cases hop
theorem pm_s_lmul (C : pm_C p R s m args meth c cc nL own sa base dC dI dA X n0 sl0 nf slf) (hdg : decode cc pc = .ok (.lmul, 1)) (hop : pm_l2 (fun x y => .long (x * y)) f = some f') : pm_Go p l e R s m args below meth c Q nL sa base dC dI dA n0 sl0 pc (pc + 1) f f' := by
  obtain ⟨hx, hb, hml, hown, hts, hlk, hK, hc1, hc2, hf1, hl1⟩ := C
  obtain ⟨L, st, S⟩ := f
  intro H locs ls cells slots hR kk
  unfold pm_l2 at hop
  split at hop
  · rename_i y x st2 hst
    simp only at hst hop
    subst hst
    cases hop
    exact lv_lmul hx hb hdg (kk _ _ _ _ _ hR)
  · cases hop
theorem pm_s_lcmp (C : pm_C p R s m args meth c cc nL own sa base dC dI dA X n0 sl0 nf slf) (hdg : decode cc pc = .ok (.lcmp, 1)) (hop : pm_l2 (fun x y => .int (lg_cmp x y)) f = some f') : pm_Go p l e R s m args below meth c Q nL sa base dC dI dA n0 sl0 pc (pc + 1) f f' := by
  obtain ⟨hx, hb, hml, hown, hts, hlk, hK, hc1, hc2, hf1, hl1⟩ := C
  obtain ⟨L, st, S⟩ := f
  intro H locs ls cells slots hR kk
  unfold pm_l2 at hop
  split at hop
  · rename_i y x st2 hst
    simp only at hst hop
    subst hst
    cases hop
    exact W.lcmp hx hb hdg (kk _ _ _ _ _ hR)
  · cases hop
theorem pm_s_iconst (C : pm_C p R s m args meth c cc nL own sa base dC dI dA X n0 sl0 nf slf) {k : Int} {v : Int32} (hv : Int32.ofInt k = v) (hdg : decode cc pc = .ok (.iconst k, 1)) (hop : pm_push (.int v) f = some f') : pm_Go p l e R s m args below meth c Q nL sa base dC dI dA n0 sl0 pc (pc + 1) f f' := by
  obtain ⟨hx, hb, hml, hown, hts, hlk, hK, hc1, hc2, hf1, hl1⟩ := C
  obtain ⟨L, st, S⟩ := f
  intro H locs ls cells slots hR kk
  unfold pm_push at hop
  cases hop
  exact lv_iconst hx hb hdg hv (kk _ _ _ _ _ hR)
theorem pm_s_bipush (C : pm_C p R s m args meth c cc nL own sa base dC dI dA X n0 sl0 nf slf) {k : Int} {v : Int32} (hv : (Int8.ofInt k).toInt32 = v) (hdg : decode cc pc = .ok (.bipush k, 2)) (hop : pm_push (.int v) f = some f') : pm_Go p l e R s m args below meth c Q nL sa base dC dI dA n0 sl0 pc (pc + 2) f f' := by
  obtain ⟨hx, hb, hml, hown, hts, hlk, hK, hc1, hc2, hf1, hl1⟩ := C
  obtain ⟨L, st, S⟩ := f
  intro H locs ls cells slots hR kk
  unfold pm_push at hop
  cases hop
  exact lv_bipush hx hb hdg hv (kk _ _ _ _ _ hR)
theorem pm_s_sipush (C : pm_C p R s m args meth c cc nL own sa base dC dI dA X n0 sl0 nf slf) {k : Int} {v : Int32} (hv : (Int16.ofInt k).toInt32 = v) (hdg : decode cc pc = .ok (.sipush k, 3)) (hop : pm_push (.int v) f = some f') : pm_Go p l e R s m args below meth c Q nL sa base dC dI dA n0 sl0 pc (pc + 3) f f' := by
  obtain ⟨hx, hb, hml, hown, hts, hlk, hK, hc1, hc2, hf1, hl1⟩ := C
  obtain ⟨L, st, S⟩ := f
  intro H locs ls cells slots hR kk
  unfold pm_push at hop
  cases hop
  exact lv_sipush hx hb hdg hv (kk _ _ _ _ _ hR)
theorem pm_s_ldc (C : pm_C p R s m args meth c cc nL own sa base dC dI dA X n0 sl0 nf slf) {k : Nat} {v : Int32} (hv : Cond.constant own k v ∈ pm_tbl) (hdg : decode cc pc = .ok (.ldc k, 2)) (hop : pm_push (.int v) f = some f') : pm_Go p l e R s m args below meth c Q nL sa base dC dI dA n0 sl0 pc (pc + 2) f f' := by
  obtain ⟨hx, hb, hml, hown, hts, hlk, hK, hc1, hc2, hf1, hl1⟩ := C
  obtain ⟨L, st, S⟩ := f
  intro H locs ls cells slots hR kk
  unfold pm_push at hop
  cases hop
  exact lv_ldc hx hb hown (hts _ hv) hdg (kk _ _ _ _ _ hR)
theorem pm_s_ldcw (C : pm_C p R s m args meth c cc nL own sa base dC dI dA X n0 sl0 nf slf) {k : Nat} {v : Int32} (hv : Cond.constant own k v ∈ pm_tbl) (hdg : decode cc pc = .ok (.ldc_w k, 3)) (hop : pm_push (.int v) f = some f') : pm_Go p l e R s m args below meth c Q nL sa base dC dI dA n0 sl0 pc (pc + 3) f f' := by
  obtain ⟨hx, hb, hml, hown, hts, hlk, hK, hc1, hc2, hf1, hl1⟩ := C
  obtain ⟨L, st, S⟩ := f
  intro H locs ls cells slots hR kk
  unfold pm_push at hop
  cases hop
  exact lv_ldcw hx hb hown (hts _ hv) hdg (kk _ _ _ _ _ hR)
theorem pm_s_lconst (C : pm_C p R s m args meth c cc nL own sa base dC dI dA X n0 sl0 nf slf) {k : Fin 2} {v : Int64} (hv : Int64.ofNat (k : Nat) = v) (hdg : decode cc pc = .ok (.lconst k, 1)) (hop : pm_push (.long v) f = some f') : pm_Go p l e R s m args below meth c Q nL sa base dC dI dA n0 sl0 pc (pc + 1) f f' := by
  obtain ⟨hx, hb, hml, hown, hts, hlk, hK, hc1, hc2, hf1, hl1⟩ := C
  obtain ⟨L, st, S⟩ := f
  intro H locs ls cells slots hR kk
  unfold pm_push at hop
  cases hop
  exact lv_lconst hx hb hdg hv (kk _ _ _ _ _ hR)
theorem pm_s_ldc2 (C : pm_C p R s m args meth c cc nL own sa base dC dI dA X n0 sl0 nf slf) {k : Nat} {v : Int64} (hv : Cond.constantLong own k v ∈ pm_tbl) (hdg : decode cc pc = .ok (.ldc2_w k, 3)) (hop : pm_push (.long v) f = some f') : pm_Go p l e R s m args below meth c Q nL sa base dC dI dA n0 sl0 pc (pc + 3) f f' := by
  obtain ⟨hx, hb, hml, hown, hts, hlk, hK, hc1, hc2, hf1, hl1⟩ := C
  obtain ⟨L, st, S⟩ := f
  intro H locs ls cells slots hR kk
  unfold pm_push at hop
  cases hop
  exact lv_ldc2 hx hb hown (hts _ hv) hdg (kk _ _ _ _ _ hR)
theorem pm_s_null (C : pm_C p R s m args meth c cc nL own sa base dC dI dA X n0 sl0 nf slf)  (hdg : decode cc pc = .ok (.aconst_null, 1)) (hop : pm_push (.null) f = some f') : pm_Go p l e R s m args below meth c Q nL sa base dC dI dA n0 sl0 pc (pc + 1) f f' := by
  obtain ⟨hx, hb, hml, hown, hts, hlk, hK, hc1, hc2, hf1, hl1⟩ := C
  obtain ⟨L, st, S⟩ := f
  intro H locs ls cells slots hR kk
  unfold pm_push at hop
  cases hop
  exact lv_null hx hb hdg (kk _ _ _ _ _ hR)
theorem pm_s_iload (C : pm_C p R s m args meth c cc nL own sa base dC dI dA X n0 sl0 nf slf) {i : Nat} (hdg : decode cc pc = .ok (.iload i, 2)) (hop : pm_load pm_isI i f = some f') : pm_Go p l e R s m args below meth c Q nL sa base dC dI dA n0 sl0 pc (pc + 2) f f' := by
  obtain ⟨hx, hb, hml, hown, hts, hlk, hK, hc1, hc2, hf1, hl1⟩ := C
  obtain ⟨L, st, S⟩ := f
  intro H locs ls cells slots hR kk
  unfold pm_load at hop
  split at hop
  · rename_i v hv
    have hld := hR.1.2.2.2 _ _ (pm_ld_some.mp hv)
    simp only at hop
    split at hop
    · rename_i hk
      cases hop
      cases v with
      | int x => exact lv_iload hx hb hdg hld (kk _ _ _ _ _ hR)
      | _ => cases hk
    · cases hop
  · cases hop
theorem pm_s_iload_n (C : pm_C p R s m args meth c cc nL own sa base dC dI dA X n0 sl0 nf slf) {k : Fin 4} {i : Nat} (hi : (k : Nat) = i) (hdg : decode cc pc = .ok (.iload_n k, 1)) (hop : pm_load pm_isI i f = some f') : pm_Go p l e R s m args below meth c Q nL sa base dC dI dA n0 sl0 pc (pc + 1) f f' := by
  obtain ⟨hx, hb, hml, hown, hts, hlk, hK, hc1, hc2, hf1, hl1⟩ := C
  obtain ⟨L, st, S⟩ := f
  intro H locs ls cells slots hR kk
  unfold pm_load at hop
  split at hop
  · rename_i v hv
    have hld := hR.1.2.2.2 _ _ (pm_ld_some.mp hv)
    simp only at hop
    split at hop
    · rename_i hk
      cases hop
      cases v with
      | int x => exact lv_iload_n hx hb hdg hi hld (kk _ _ _ _ _ hR)
      | _ => cases hk
    · cases hop
  · cases hop
theorem pm_s_lload (C : pm_C p R s m args meth c cc nL own sa base dC dI dA X n0 sl0 nf slf) {i : Nat} (hdg : decode cc pc = .ok (.lload i, 2)) (hop : pm_load pm_isL i f = some f') : pm_Go p l e R s m args below meth c Q nL sa base dC dI dA n0 sl0 pc (pc + 2) f f' := by
  obtain ⟨hx, hb, hml, hown, hts, hlk, hK, hc1, hc2, hf1, hl1⟩ := C
  obtain ⟨L, st, S⟩ := f
  intro H locs ls cells slots hR kk
  unfold pm_load at hop
  split at hop
  · rename_i v hv
    have hld := hR.1.2.2.2 _ _ (pm_ld_some.mp hv)
    simp only at hop
    split at hop
    · rename_i hk
      cases hop
      cases v with
      | long x => exact lv_lload hx hb hdg hld (kk _ _ _ _ _ hR)
      | _ => cases hk
    · cases hop
  · cases hop
theorem pm_s_lload_n (C : pm_C p R s m args meth c cc nL own sa base dC dI dA X n0 sl0 nf slf) {k : Fin 4} {i : Nat} (hi : (k : Nat) = i) (hdg : decode cc pc = .ok (.lload_n k, 1)) (hop : pm_load pm_isL i f = some f') : pm_Go p l e R s m args below meth c Q nL sa base dC dI dA n0 sl0 pc (pc + 1) f f' := by
  obtain ⟨hx, hb, hml, hown, hts, hlk, hK, hc1, hc2, hf1, hl1⟩ := C
  obtain ⟨L, st, S⟩ := f
  intro H locs ls cells slots hR kk
  unfold pm_load at hop
  split at hop
  · rename_i v hv
    have hld := hR.1.2.2.2 _ _ (pm_ld_some.mp hv)
    simp only at hop
    split at hop
    · rename_i hk
      cases hop
      cases v with
      | long x => exact lv_lload_n hx hb hdg hi hld (kk _ _ _ _ _ hR)
      | _ => cases hk
    · cases hop
  · cases hop
theorem pm_s_aload (C : pm_C p R s m args meth c cc nL own sa base dC dI dA X n0 sl0 nf slf) {i : Nat} (hdg : decode cc pc = .ok (.aload i, 2)) (hop : pm_load pm_isA i f = some f') : pm_Go p l e R s m args below meth c Q nL sa base dC dI dA n0 sl0 pc (pc + 2) f f' := by
  obtain ⟨hx, hb, hml, hown, hts, hlk, hK, hc1, hc2, hf1, hl1⟩ := C
  obtain ⟨L, st, S⟩ := f
  intro H locs ls cells slots hR kk
  unfold pm_load at hop
  split at hop
  · rename_i v hv
    have hld := hR.1.2.2.2 _ _ (pm_ld_some.mp hv)
    simp only at hop
    split at hop
    · rename_i hk
      cases hop
      cases v with
      | ref x => exact lv_aload hx hb hdg hld (kk _ _ _ _ _ hR)
      | null => exact lv_aloadN hx hb hdg hld (kk _ _ _ _ _ hR)
      | _ => cases hk
    · cases hop
  · cases hop
theorem pm_s_aload_n (C : pm_C p R s m args meth c cc nL own sa base dC dI dA X n0 sl0 nf slf) {k : Fin 4} {i : Nat} (hi : (k : Nat) = i) (hdg : decode cc pc = .ok (.aload_n k, 1)) (hop : pm_load pm_isA i f = some f') : pm_Go p l e R s m args below meth c Q nL sa base dC dI dA n0 sl0 pc (pc + 1) f f' := by
  obtain ⟨hx, hb, hml, hown, hts, hlk, hK, hc1, hc2, hf1, hl1⟩ := C
  obtain ⟨L, st, S⟩ := f
  intro H locs ls cells slots hR kk
  unfold pm_load at hop
  split at hop
  · rename_i v hv
    have hld := hR.1.2.2.2 _ _ (pm_ld_some.mp hv)
    simp only at hop
    split at hop
    · rename_i hk
      cases hop
      cases v with
      | ref x => exact lv_aload_n hx hb hdg hi hld (kk _ _ _ _ _ hR)
      | null => exact lv_aload_nN hx hb hdg hi hld (kk _ _ _ _ _ hR)
      | _ => cases hk
    · cases hop
  · cases hop
theorem pm_s_istore (C : pm_C p R s m args meth c cc nL own sa base dC dI dA X n0 sl0 nf slf) {i : Nat} (hdg : decode cc pc = .ok (.istore i, 2)) (hop : pm_store pm_isI i f = some f') : pm_Go p l e R s m args below meth c Q nL sa base dC dI dA n0 sl0 pc (pc + 2) f f' := by
  obtain ⟨hx, hb, hml, hown, hts, hlk, hK, hc1, hc2, hf1, hl1⟩ := C
  obtain ⟨L, st, S⟩ := f
  intro H locs ls cells slots hR kk
  unfold pm_store at hop
  split at hop
  · rename_i v st2 hst
    simp only at hst hop
    subst hst
    split at hop
    · rename_i hk
      split at hop
      · rename_i L2 hL
        cases hop
        cases v with
        | int x => exact lv_istore hx hb hdg hR.1.has (by have := pm_st_lt hL; have := hR.1.1; simp only at this; omega) rfl (fun ls1 hl1 => kk _ _ _ _ _ ⟨pm_LR.store1 hR.1.1 rfl hL hl1, hR.2⟩)
        | _ => cases hk
      · cases hop
    · cases hop
  · cases hop
theorem pm_s_istore_n (C : pm_C p R s m args meth c cc nL own sa base dC dI dA X n0 sl0 nf slf) {k : Fin 4} {i : Nat} (hi : (k : Nat) = i) (hdg : decode cc pc = .ok (.istore_n k, 1)) (hop : pm_store pm_isI i f = some f') : pm_Go p l e R s m args below meth c Q nL sa base dC dI dA n0 sl0 pc (pc + 1) f f' := by
  obtain ⟨hx, hb, hml, hown, hts, hlk, hK, hc1, hc2, hf1, hl1⟩ := C
  obtain ⟨L, st, S⟩ := f
  intro H locs ls cells slots hR kk
  unfold pm_store at hop
  split at hop
  · rename_i v st2 hst
    simp only at hst hop
    subst hst
    split at hop
    · rename_i hk
      split at hop
      · rename_i L2 hL
        cases hop
        cases v with
        | int x => exact lv_istore_n hx hb hdg hi hR.1.has (by have := pm_st_lt hL; have := hR.1.1; simp only at this; omega) rfl (fun ls1 hl1 => kk _ _ _ _ _ ⟨pm_LR.store1 hR.1.1 rfl hL hl1, hR.2⟩)
        | _ => cases hk
      · cases hop
    · cases hop
  · cases hop
theorem pm_s_lstore (C : pm_C p R s m args meth c cc nL own sa base dC dI dA X n0 sl0 nf slf) {i : Nat} (hdg : decode cc pc = .ok (.lstore i, 2)) (hop : pm_store pm_isL i f = some f') : pm_Go p l e R s m args below meth c Q nL sa base dC dI dA n0 sl0 pc (pc + 2) f f' := by
  obtain ⟨hx, hb, hml, hown, hts, hlk, hK, hc1, hc2, hf1, hl1⟩ := C
  obtain ⟨L, st, S⟩ := f
  intro H locs ls cells slots hR kk
  unfold pm_store at hop
  split at hop
  · rename_i v st2 hst
    simp only at hst hop
    subst hst
    split at hop
    · rename_i hk
      split at hop
      · rename_i L2 hL
        cases hop
        cases v with
        | long x => exact lv_lstore hx hb hdg hR.1.has (by have := (pm_st_lt hL).2 rfl; have := hR.1.1; simp only at this; omega) rfl (fun ls1 hl1 => kk _ _ _ _ _ ⟨pm_LR.store2 hR.1.1 rfl hL hl1, hR.2⟩)
        | _ => cases hk
      · cases hop
    · cases hop
  · cases hop
theorem pm_s_lstore_n (C : pm_C p R s m args meth c cc nL own sa base dC dI dA X n0 sl0 nf slf) {k : Fin 4} {i : Nat} (hi : (k : Nat) = i) (hdg : decode cc pc = .ok (.lstore_n k, 1)) (hop : pm_store pm_isL i f = some f') : pm_Go p l e R s m args below meth c Q nL sa base dC dI dA n0 sl0 pc (pc + 1) f f' := by
  obtain ⟨hx, hb, hml, hown, hts, hlk, hK, hc1, hc2, hf1, hl1⟩ := C
  obtain ⟨L, st, S⟩ := f
  intro H locs ls cells slots hR kk
  unfold pm_store at hop
  split at hop
  · rename_i v st2 hst
    simp only at hst hop
    subst hst
    split at hop
    · rename_i hk
      split at hop
      · rename_i L2 hL
        cases hop
        cases v with
        | long x => exact lv_lstore_n hx hb hdg hi hR.1.has (by have := (pm_st_lt hL).2 rfl; have := hR.1.1; simp only at this; omega) rfl (fun ls1 hl1 => kk _ _ _ _ _ ⟨pm_LR.store2 hR.1.1 rfl hL hl1, hR.2⟩)
        | _ => cases hk
      · cases hop
    · cases hop
  · cases hop
theorem pm_s_astore (C : pm_C p R s m args meth c cc nL own sa base dC dI dA X n0 sl0 nf slf) {i : Nat} (hdg : decode cc pc = .ok (.astore i, 2)) (hop : pm_store pm_isA i f = some f') : pm_Go p l e R s m args below meth c Q nL sa base dC dI dA n0 sl0 pc (pc + 2) f f' := by
  obtain ⟨hx, hb, hml, hown, hts, hlk, hK, hc1, hc2, hf1, hl1⟩ := C
  obtain ⟨L, st, S⟩ := f
  intro H locs ls cells slots hR kk
  unfold pm_store at hop
  split at hop
  · rename_i v st2 hst
    simp only at hst hop
    subst hst
    split at hop
    · rename_i hk
      split at hop
      · rename_i L2 hL
        cases hop
        cases v with
        | ref x => exact lv_astore hx hb hdg hR.1.has (by have := pm_st_lt hL; have := hR.1.1; simp only at this; omega) rfl (fun ls1 hl1 => kk _ _ _ _ _ ⟨pm_LR.store1 hR.1.1 rfl hL hl1, hR.2⟩)
        | null => exact lv_astoreN hx hb hdg hR.1.has (by have := pm_st_lt hL; have := hR.1.1; simp only at this; omega) rfl (fun ls1 hl1 => kk _ _ _ _ _ ⟨pm_LR.store1 hR.1.1 rfl hL hl1, hR.2⟩)
        | _ => cases hk
      · cases hop
    · cases hop
  · cases hop
theorem pm_s_astore_n (C : pm_C p R s m args meth c cc nL own sa base dC dI dA X n0 sl0 nf slf) {k : Fin 4} {i : Nat} (hi : (k : Nat) = i) (hdg : decode cc pc = .ok (.astore_n k, 1)) (hop : pm_store pm_isA i f = some f') : pm_Go p l e R s m args below meth c Q nL sa base dC dI dA n0 sl0 pc (pc + 1) f f' := by
  obtain ⟨hx, hb, hml, hown, hts, hlk, hK, hc1, hc2, hf1, hl1⟩ := C
  obtain ⟨L, st, S⟩ := f
  intro H locs ls cells slots hR kk
  unfold pm_store at hop
  split at hop
  · rename_i v st2 hst
    simp only at hst hop
    subst hst
    split at hop
    · rename_i hk
      split at hop
      · rename_i L2 hL
        cases hop
        cases v with
        | ref x => exact lv_astore_n hx hb hdg hi hR.1.has (by have := pm_st_lt hL; have := hR.1.1; simp only at this; omega) rfl (fun ls1 hl1 => kk _ _ _ _ _ ⟨pm_LR.store1 hR.1.1 rfl hL hl1, hR.2⟩)
        | null => exact lv_astore_nN hx hb hdg hi hR.1.has (by have := pm_st_lt hL; have := hR.1.1; simp only at this; omega) rfl (fun ls1 hl1 => kk _ _ _ _ _ ⟨pm_LR.store1 hR.1.1 rfl hL hl1, hR.2⟩)
        | _ => cases hk
      · cases hop
    · cases hop
  · cases hop
theorem pm_s_iinc (C : pm_C p R s m args meth c cc nL own sa base dC dI dA X n0 sl0 nf slf) {i : Nat} {n : Int} (hdg : decode cc pc = .ok (.iinc i n, 3)) (hop : pm_iinc i n f = some f') : pm_Go p l e R s m args below meth c Q nL sa base dC dI dA n0 sl0 pc (pc + 3) f f' := by
  obtain ⟨hx, hb, hml, hown, hts, hlk, hK, hc1, hc2, hf1, hl1⟩ := C
  obtain ⟨L, st, S⟩ := f
  intro H locs ls cells slots hR kk
  unfold pm_iinc at hop
  split at hop
  · rename_i x hv
    split at hop
    · rename_i L2 hL
      cases hop
      have hm : ((i, Value.int x) : Nat × Value) ∈ pm_pairs (pm_ad sa base) L := pm_pairs_mem.mpr ⟨_, pm_ld_some.mp hv, rfl⟩
      obtain ⟨k, hk⟩ := List.getElem?_of_mem hm
      exact lv_iinc hx hb hdg hR.1.has hk rfl (by have h1 := (pm_st_lt hL).1; have h2 := hR.1.1; dsimp only at h1 h2; omega) rfl (fun ls1 hl1 => kk _ _ _ _ _ ⟨pm_LR.store1 hR.1.1 rfl hL hl1, hR.2⟩)
    · cases hop
  · cases hop
theorem pm_s_dup (C : pm_C p R s m args meth c cc nL own sa base dC dI dA X n0 sl0 nf slf) (hdg : decode cc pc = .ok (.dup, 1)) (hop : pm_dup f = some f') : pm_Go p l e R s m args below meth c Q nL sa base dC dI dA n0 sl0 pc (pc + 1) f f' := by
  obtain ⟨hx, hb, hml, hown, hts, hlk, hK, hc1, hc2, hf1, hl1⟩ := C
  obtain ⟨L, st, S⟩ := f
  intro H locs ls cells slots hR kk
  unfold pm_dup at hop
  split at hop
  · rename_i v st2 hst
    simp only at hst hop
    subst hst
    split at hop
    · rename_i hc
      cases hop
      exact lv_dup hx hb hdg (by rw [pm_cv_cat]; exact hc) (kk _ _ _ _ _ hR)
    · cases hop
  · cases hop
theorem pm_s_dup2 (C : pm_C p R s m args meth c cc nL own sa base dC dI dA X n0 sl0 nf slf) (hdg : decode cc pc = .ok (.dup2, 1)) (hop : pm_dup2 f = some f') : pm_Go p l e R s m args below meth c Q nL sa base dC dI dA n0 sl0 pc (pc + 1) f f' := by
  obtain ⟨hx, hb, hml, hown, hts, hlk, hK, hc1, hc2, hf1, hl1⟩ := C
  obtain ⟨L, st, S⟩ := f
  intro H locs ls cells slots hR kk
  unfold pm_dup2 at hop
  split at hop
  · rename_i v w st2 hst
    simp only at hst hop
    subst hst
    split at hop
    · rename_i hc
      cases hop
      exact lv_dup2_11 hx hb hdg (by rw [pm_cv_cat]; exact hc.1) (by rw [pm_cv_cat]; exact hc.2) (kk _ _ _ _ _ hR)
    · cases hop
  · cases hop
theorem pm_s_pop (C : pm_C p R s m args meth c cc nL own sa base dC dI dA X n0 sl0 nf slf) (hdg : decode cc pc = .ok (.pop, 1)) (hop : pm_pop f = some f') : pm_Go p l e R s m args below meth c Q nL sa base dC dI dA n0 sl0 pc (pc + 1) f f' := by
  obtain ⟨hx, hb, hml, hown, hts, hlk, hK, hc1, hc2, hf1, hl1⟩ := C
  obtain ⟨L, st, S⟩ := f
  intro H locs ls cells slots hR kk
  unfold pm_pop at hop
  split at hop
  · rename_i v st2 hst
    simp only at hst hop
    subst hst
    split at hop
    · rename_i hc
      cases hop
      exact lv_pop hx hb hdg (by rw [pm_cv_cat]; exact hc) (kk _ _ _ _ _ hR)
    · cases hop
  · cases hop
theorem pm_s_pop2 (C : pm_C p R s m args meth c cc nL own sa base dC dI dA X n0 sl0 nf slf) (hdg : decode cc pc = .ok (.pop2, 1)) (hop : pm_pop2 f = some f') : pm_Go p l e R s m args below meth c Q nL sa base dC dI dA n0 sl0 pc (pc + 1) f f' := by
  obtain ⟨hx, hb, hml, hown, hts, hlk, hK, hc1, hc2, hf1, hl1⟩ := C
  obtain ⟨L, st, S⟩ := f
  intro H locs ls cells slots hR kk
  unfold pm_pop2 at hop
  split at hop
  · rename_i v st2 hst
    simp only at hst hop
    subst hst
    split at hop
    · rename_i hc
      cases hop
      exact lv_pop2_2 hx hb hdg (by rw [pm_cv_cat]; exact hc) (kk _ _ _ _ _ hR)
    · cases hop
  · cases hop
end PMO
