/-! THE CLAIM OUT OF ONE WALK OF THE LAW'S BODY. Your part is whole_start (and what it stands on); all else here is the same for every law, but numbers. -/
def R_law : String := "QuestionDeskLaw"
def lw_P (b : Addr) (xs : List Int32) (args : Array Value) (s : State) : Prop := args = #[.ref b] ∧ s.IntsAt b xs ∧ xs.length ≤ 3072 ∧ (Jvm.Cond.and given_1 narrow_1).before args s = true
def lw_Q (_ : Array Value) (s : State) (o : Outcome) (t : State) : Prop := o = .returned (some (.int 1)) ∧ Framed s o t [] 601024 7293034
def lw_Z (below : List Frame) (a : Array Value) (s : State) : State → Prop := fun t => ∃ o, t.status = .running ∧ Ended t below o ∧ lw_Q a s o t
/-- the law's own end, with 1 on the stack, nothing written that was there before, its room as the claim has it -/
theorem lw_ret {p : Program} {l : Launch} {e : Env} {s : State} {m : MethodId} {below : List Frame} {meth : Method} {c : Code} {b : Nat} (hx : p.tables.exec = Jvm.exec) (hb : c.code = code) (hr : meth.sig.returnType = ret) (hlocks : meth.locks = false) {pc : Nat} {H : Heap} {ls : Array Slot} (hdg : decode code pc = .ok (.ireturn, 1)) : W p l e room_1 s m #[Value.ref b] below meth c H [] 601024 7293034 (lw_Z below #[Value.ref b] s) (F0 m pc ls [.int 1]) := by
  intro T hT X
  obtain ⟨fs, hret, hrun, hended, hW, hframe⟩ := X.leave (v := some (.int 1)) (hlocks := hlocks) (fun h => by rw [hr] at h; cases h)
  have hmeth' : T.vm.method? m = some meth := X.method'
  refine ⟨T.setFrames fs, ?_, .returned (some (.int 1)), hrun, hended, rfl, ⟨_, rfl⟩, hW, hframe⟩
  jvm_step X.here [X.here.top, hx, hb, hdg, hmeth', hr, ret, narrow_b1]
  (try refine ⟨rfl, ?_⟩); (try refine ⟨rfl, ?_⟩)
  first | (intro acts; rw [hret _ acts rfl rfl rfl]) | rw [hret _ _ rfl rfl rfl]
  exact Steps.refl _
/-- what holds at the law's entry: the machine, the code, the tables' words (any of lw_tbl by 'hts w (by decide +kernel)'), the script of L ints xs at the cell b, what the Statement gives of the start (any of its parts by flat_of_before) -/
def lw_At (p : Program) (s : State) (m : MethodId) (meth : Method) (c : Code) (b L : Nat) (xs : Nat → Int32) : Prop :=
  p.tables.exec = Jvm.exec ∧ c.code = code ∧ meth.sig.returnType = ret ∧ c.maxLocals = 8 ∧ s.vm.findClass R_law = some m.cls ∧ (∀ w ∈ lw_tbl, w.before #[Value.ref b] s = true) ∧ va_X b L xs s s.heap ∧ b < s.heap.size ∧ meth.locks = false ∧ (Jvm.Cond.and given_1 narrow_1).before #[Value.ref b] s = true

def pm_tbf (l : List Int32) : Nat → Int32 := fun j => l.getD j 0
def pm_X0 (L : Nat) (xs : Nat → Int32) : pm_X := fun k => match k with
  | 0 => some (L, xs)
  | 1 => some (6, pm_tbf [0, 0, 5, 2, 2, 0])
  | 2 => some (18, pm_tbf [0, 1, 2, 0, 2, 1, 1, 0, 2, 2, 0, 1, 1, 2, 0, 2, 1, 0])
  | 3 => some (6, pm_tbf [2, 4, 0, 5, 1, 3])
  | 4 => some (6, pm_tbf [1, 0, 3, 2, 5, 4])
  | _ => none
theorem pm_RO_of {b L : Nat} {xs : Nat → Int32} {s : State} {H : Heap} (h : va_X b L xs s H) : pm_RO b L xs s H := by
  obtain ⟨scr, h1, h2, h3, h4, h5⟩ := h
  exact ⟨scr, h1, h2, h3, Nat.le_of_eq h4.symm, (by rw [h4]), h5⟩
theorem pm_RO_T {t N : Nat} {f : Nat → Int32} {A : Nat → Prop} {s : State} {H : Heap} (h : va_T .int t N (fun j => .int (f j)) A s H) : pm_RO t N f s H := by
  obtain ⟨cell, h1, h2, h3, h4, h5, h6, -⟩ := h
  exact ⟨cell, h1, h2, h3, h4, h5, h6⟩
theorem pm_stat {args : Array Value} {s : State} {n : String} {l : List Int32} (hl : (Cond.laysStatic "QuestionDesk" n "[I").before args s = true) (hini : (Cond.initialized "QuestionDesk").before args s = true) (hlen : l.length < 1000)
    (harr : (Cond.arrayOf (.static "QuestionDesk" n "[I") .int).before args s = true) (hle : (Cond.eq (.length (.static "QuestionDesk" n "[I")) (.int (Int32.ofNat l.length))).before args s = true)
    (hel : ∀ j : Nat, j < l.length → (Cond.eq (.elem (.static "QuestionDesk" n "[I") (.int (Int32.ofNat j))) (.int (l.getD j 0))).before args s = true) :
    ∃ t : Nat, t < s.heap.size ∧ pm_RO t l.length (pm_tbf l) s s.heap ∧ va_Z "QuestionDesk" n "[I" (.ref t) (fun a : Nat => s.heap.size ≤ a) s s.heap := by
  have hA : ∀ a : Nat, a < s.heap.size → ¬ (fun a : Nat => s.heap.size ≤ a) a := fun a h => Nat.not_le.mpr h
  obtain ⟨t, ht, hT⟩ := va_Tof (ty := .int) (N := l.length) (f := fun j => .int (l.getD j 0)) (A := fun a : Nat => s.heap.size ≤ a) (Nat.lt_of_lt_of_le hlen (by decide)) harr (va_eqt hle) (fun j hj => va_eqt (hel j hj)) hA
  refine ⟨t, ?_, pm_RO_T hT, va_Zref hl hini ht hA⟩
  obtain ⟨cell, h1, -⟩ := hT
  exact (Array.getElem?_eq_some_iff.mp h1).1
theorem pm_arr {args : Array Value} {s : State} {ty : FieldType} (h : (Cond.arrayClass ty).before args s = true) : ∃ cA : ClassId, ArrOfT s cA ty ∧ s.vm.findClass ("[" ++ ty.toString) = some cA := by
  obtain ⟨cA, kA, comp, h1, h2, h3⟩ := Cond.arrayClass_spec h
  exact ⟨cA, fun N z => ⟨(fun k h => by cases h), kA, h2, comp, h3⟩, h1⟩
theorem pm_arrO {args : Array Value} {s : State} {C : String} (h : (Cond.arrayOver (.object C)).before args s = true) : ∃ cA : ClassId, ArrOfT s cA (.object C) ∧ va_RA s cA (.object C) := by
  obtain ⟨comp, cA, kA, h1, -, h2, h3, h4⟩ := Cond.arrayOver_spec h
  exact ⟨cA, fun N z => ⟨(fun k h => by cases h), kA, h2, comp, h3⟩, kA, comp, h2, h3, h1, h4⟩
theorem pm_cls0 {args : Array Value} {s : State} {C : String} {n : Nat} (h : (Cond.instantiable C n).before args s = true) : ∃ (cC : ClassId) (iS : Nat → Nat), u_Kn s C TX0 0 cC iS := by
  obtain ⟨cC, kC, hfc, hk, hkind, -⟩ := Cond.instantiable_spec h
  exact ⟨cC, fun _ => 0, fun k hk => absurd hk (Nat.not_lt_zero k), hfc, kC, hk, hkind⟩
def pm_ew : List Cond := [.arrayOver (.object RX3), .arrayOver (.object RX8), .arrayOver (.object RX7), .instantiable "java/lang/IllegalArgumentException" 6, .instantiable "java/lang/IllegalStateException" 6, .instantiable "java/lang/UnsupportedOperationException" 6, .laysStatic "QuestionDesk" "MOST_NUMBER" "[I", .laysStatic "QuestionDesk" "LIKING_PLACES" "[I", .laysStatic "QuestionDesk" "FIRST_TWO_CHANGED" "[I", .laysStatic "QuestionDesk" "LAST_TWO_CHANGED" "[I", .initialized "QuestionDesk"]
theorem pm_ew_in : ∀ w ∈ pm_ew, w ∈ lw_tbl := fun w hw => of_decide_eq_true (List.all_eq_true.mp (by decide +kernel : pm_ew.all (fun w => decide (w ∈ lw_tbl)) = true) w hw)
theorem pm_nw_in : ∀ w ∈ (pm_nwm.map (fun q => Cond.methodLinkNest q.1 q.2.1 q.2.2 "QuestionDesk") ++ pm_nwf.map (fun q => Cond.fieldLinkNest q.1 q.2.1 "QuestionDesk" q.2.2 "[I" "QuestionDesk")), w ∈ lw_tbl := fun w hw => of_decide_eq_true (List.all_eq_true.mp (by decide +kernel : (pm_nwm.map (fun q => Cond.methodLinkNest q.1 q.2.1 q.2.2 "QuestionDesk") ++ pm_nwf.map (fun q => Cond.fieldLinkNest q.1 q.2.1 "QuestionDesk" q.2.2 "[I" "QuestionDesk")).all (fun w => decide (w ∈ lw_tbl)) = true) w hw)
def pm_sw1 : List Cond := [.arrayOf (.static "QuestionDesk" "MOST_NUMBER" "[I") .int, .eq (.length (.static "QuestionDesk" "MOST_NUMBER" "[I")) (.int 6), .eq (.elem (.static "QuestionDesk" "MOST_NUMBER" "[I") (.int 0)) (.int 0), .eq (.elem (.static "QuestionDesk" "MOST_NUMBER" "[I") (.int 1)) (.int 0), .eq (.elem (.static "QuestionDesk" "MOST_NUMBER" "[I") (.int 2)) (.int 5), .eq (.elem (.static "QuestionDesk" "MOST_NUMBER" "[I") (.int 3)) (.int 2), .eq (.elem (.static "QuestionDesk" "MOST_NUMBER" "[I") (.int 4)) (.int 2), .eq (.elem (.static "QuestionDesk" "MOST_NUMBER" "[I") (.int 5)) (.int 0)]
theorem pm_sw1_in : ∀ w ∈ pm_sw1, w ∈ flatC (Jvm.Cond.and given_1 narrow_1) := fun w hw => of_decide_eq_true (List.all_eq_true.mp (by decide +kernel : pm_sw1.all (fun w => decide (w ∈ flatC (Jvm.Cond.and given_1 narrow_1))) = true) w hw)
def pm_sw2 : List Cond := [.arrayOf (.static "QuestionDesk" "LIKING_PLACES" "[I") .int, .eq (.length (.static "QuestionDesk" "LIKING_PLACES" "[I")) (.int 18), .eq (.elem (.static "QuestionDesk" "LIKING_PLACES" "[I") (.int 0)) (.int 0), .eq (.elem (.static "QuestionDesk" "LIKING_PLACES" "[I") (.int 1)) (.int 1), .eq (.elem (.static "QuestionDesk" "LIKING_PLACES" "[I") (.int 2)) (.int 2), .eq (.elem (.static "QuestionDesk" "LIKING_PLACES" "[I") (.int 3)) (.int 0), .eq (.elem (.static "QuestionDesk" "LIKING_PLACES" "[I") (.int 4)) (.int 2), .eq (.elem (.static "QuestionDesk" "LIKING_PLACES" "[I") (.int 5)) (.int 1), .eq (.elem (.static "QuestionDesk" "LIKING_PLACES" "[I") (.int 6)) (.int 1), .eq (.elem (.static "QuestionDesk" "LIKING_PLACES" "[I") (.int 7)) (.int 0), .eq (.elem (.static "QuestionDesk" "LIKING_PLACES" "[I") (.int 8)) (.int 2), .eq (.elem (.static "QuestionDesk" "LIKING_PLACES" "[I") (.int 9)) (.int 2), .eq (.elem (.static "QuestionDesk" "LIKING_PLACES" "[I") (.int 10)) (.int 0), .eq (.elem (.static "QuestionDesk" "LIKING_PLACES" "[I") (.int 11)) (.int 1), .eq (.elem (.static "QuestionDesk" "LIKING_PLACES" "[I") (.int 12)) (.int 1), .eq (.elem (.static "QuestionDesk" "LIKING_PLACES" "[I") (.int 13)) (.int 2), .eq (.elem (.static "QuestionDesk" "LIKING_PLACES" "[I") (.int 14)) (.int 0), .eq (.elem (.static "QuestionDesk" "LIKING_PLACES" "[I") (.int 15)) (.int 2), .eq (.elem (.static "QuestionDesk" "LIKING_PLACES" "[I") (.int 16)) (.int 1), .eq (.elem (.static "QuestionDesk" "LIKING_PLACES" "[I") (.int 17)) (.int 0)]
theorem pm_sw2_in : ∀ w ∈ pm_sw2, w ∈ flatC (Jvm.Cond.and given_1 narrow_1) := fun w hw => of_decide_eq_true (List.all_eq_true.mp (by decide +kernel : pm_sw2.all (fun w => decide (w ∈ flatC (Jvm.Cond.and given_1 narrow_1))) = true) w hw)
def pm_sw3 : List Cond := [.arrayOf (.static "QuestionDesk" "FIRST_TWO_CHANGED" "[I") .int, .eq (.length (.static "QuestionDesk" "FIRST_TWO_CHANGED" "[I")) (.int 6), .eq (.elem (.static "QuestionDesk" "FIRST_TWO_CHANGED" "[I") (.int 0)) (.int 2), .eq (.elem (.static "QuestionDesk" "FIRST_TWO_CHANGED" "[I") (.int 1)) (.int 4), .eq (.elem (.static "QuestionDesk" "FIRST_TWO_CHANGED" "[I") (.int 2)) (.int 0), .eq (.elem (.static "QuestionDesk" "FIRST_TWO_CHANGED" "[I") (.int 3)) (.int 5), .eq (.elem (.static "QuestionDesk" "FIRST_TWO_CHANGED" "[I") (.int 4)) (.int 1), .eq (.elem (.static "QuestionDesk" "FIRST_TWO_CHANGED" "[I") (.int 5)) (.int 3)]
theorem pm_sw3_in : ∀ w ∈ pm_sw3, w ∈ flatC (Jvm.Cond.and given_1 narrow_1) := fun w hw => of_decide_eq_true (List.all_eq_true.mp (by decide +kernel : pm_sw3.all (fun w => decide (w ∈ flatC (Jvm.Cond.and given_1 narrow_1))) = true) w hw)
def pm_sw4 : List Cond := [.arrayOf (.static "QuestionDesk" "LAST_TWO_CHANGED" "[I") .int, .eq (.length (.static "QuestionDesk" "LAST_TWO_CHANGED" "[I")) (.int 6), .eq (.elem (.static "QuestionDesk" "LAST_TWO_CHANGED" "[I") (.int 0)) (.int 1), .eq (.elem (.static "QuestionDesk" "LAST_TWO_CHANGED" "[I") (.int 1)) (.int 0), .eq (.elem (.static "QuestionDesk" "LAST_TWO_CHANGED" "[I") (.int 2)) (.int 3), .eq (.elem (.static "QuestionDesk" "LAST_TWO_CHANGED" "[I") (.int 3)) (.int 2), .eq (.elem (.static "QuestionDesk" "LAST_TWO_CHANGED" "[I") (.int 4)) (.int 5), .eq (.elem (.static "QuestionDesk" "LAST_TWO_CHANGED" "[I") (.int 5)) (.int 4)]
theorem pm_sw4_in : ∀ w ∈ pm_sw4, w ∈ flatC (Jvm.Cond.and given_1 narrow_1) := fun w hw => of_decide_eq_true (List.all_eq_true.mp (by decide +kernel : pm_sw4.all (fun w => decide (w ∈ flatC (Jvm.Cond.and given_1 narrow_1))) = true) w hw)
/-- at the law's entry the tables, statics and read-only arrays are as the pure machine takes them -/
theorem pm_start {p : Program} {s : State} {m : MethodId} {meth : Method} {c : Code} {b L : Nat} {xs : Nat → Int32} (C0 : lw_At p s m meth c b L xs) :
    ∃ (sa : Nat → Nat) (dC : Nat → ClassId) (dI : Nat → Nat → Nat) (dA : Nat → ClassId), sa 0 = b ∧ pm_K sa s.heap.size dC dI dA (pm_X0 L xs) s := by
  obtain ⟨hx, hb, hr, hml, hown, hts, hX, hbl, hlocks, hgv⟩ := C0
  have hflat := flat_of_before _ hgv
  have hgood : ∀ w ∈ pm_tbl, w.before #[Value.ref b] s = true := fun w hw => hts w (List.mem_filter.mp hw).1
  obtain ⟨c0, i0, k0⟩ := u_known (C := RX0) (T := TX0) (N := 6) (n := 6) hgood pm_in0 (hgood _ (pm_cls2 (ci := 0) (r := (RX0, TX0, 6)) rfl (by decide)).1)
  obtain ⟨c1, i1, k1⟩ := u_known (C := RX1) (T := TX1) (N := 12) (n := 12) hgood pm_in1 (hgood _ (pm_cls2 (ci := 1) (r := (RX1, TX1, 12)) rfl (by decide)).1)
  obtain ⟨c2, i2, k2⟩ := u_known (C := RX2) (T := TX2) (N := 4) (n := 4) hgood pm_in2 (hgood _ (pm_cls2 (ci := 2) (r := (RX2, TX2, 4)) rfl (by decide)).1)
  obtain ⟨c3, i3, k3⟩ := u_known (C := RX3) (T := TX3) (N := 8) (n := 8) hgood pm_in3 (hgood _ (pm_cls2 (ci := 3) (r := (RX3, TX3, 8)) rfl (by decide)).1)
  obtain ⟨c4, i4, k4⟩ := u_known (C := RX4) (T := TX4) (N := 5) (n := 5) hgood pm_in4 (hgood _ (pm_cls2 (ci := 4) (r := (RX4, TX4, 5)) rfl (by decide)).1)
  obtain ⟨c5, i5, k5⟩ := u_known (C := RX5) (T := TX5) (N := 8) (n := 8) hgood pm_in5 (hgood _ (pm_cls2 (ci := 5) (r := (RX5, TX5, 8)) rfl (by decide)).1)
  obtain ⟨c6, i6, k6⟩ := u_known (C := RX6) (T := TX6) (N := 8) (n := 8) hgood pm_in6 (hgood _ (pm_cls2 (ci := 6) (r := (RX6, TX6, 8)) rfl (by decide)).1)
  obtain ⟨c7, i7, k7⟩ := u_known (C := RX7) (T := TX7) (N := 5) (n := 5) hgood pm_in7 (hgood _ (pm_cls2 (ci := 7) (r := (RX7, TX7, 5)) rfl (by decide)).1)
  obtain ⟨c8, i8, k8⟩ := u_known (C := RX8) (T := TX8) (N := 7) (n := 7) hgood pm_in8 (hgood _ (pm_cls2 (ci := 8) (r := (RX8, TX8, 7)) rfl (by decide)).1)
  obtain ⟨c9, i9, k9⟩ := u_known (C := RX9) (T := TX9) (N := 9) (n := 9) hgood pm_in9 (hgood _ (pm_cls2 (ci := 9) (r := (RX9, TX9, 9)) rfl (by decide)).1)
  obtain ⟨c10, i10, k10⟩ := u_known (C := RX10) (T := TX10) (N := 57) (n := 57) hgood pm_in10 (hgood _ (pm_cls2 (ci := 10) (r := (RX10, TX10, 57)) rfl (by decide)).1)
  obtain ⟨c11, i11, k11⟩ := pm_cls0 (hts (.instantiable "java/lang/IllegalArgumentException" 6) (pm_ew_in _ (by simp [pm_ew])))
  obtain ⟨c12, i12, k12⟩ := pm_cls0 (hts (.instantiable "java/lang/IllegalStateException" 6) (pm_ew_in _ (by simp [pm_ew])))
  obtain ⟨c13, i13, k13⟩ := pm_cls0 (hts (.instantiable "java/lang/UnsupportedOperationException" 6) (pm_ew_in _ (by simp [pm_ew])))
  obtain ⟨aI, aI1, aI2⟩ := pm_arr (hgood _ pm_w_int)
  obtain ⟨aJ, aJ1, aJ2⟩ := pm_arr (hgood _ pm_w_long)
  obtain ⟨aM, aM1, aM2⟩ := pm_arrO (hts (.arrayOver (.object RX3)) (pm_ew_in _ (by simp [pm_ew])))
  obtain ⟨aT, aT1, aT2⟩ := pm_arrO (hts (.arrayOver (.object RX8)) (pm_ew_in _ (by simp [pm_ew])))
  obtain ⟨aS, aS1, aS2⟩ := pm_arrO (hts (.arrayOver (.object RX7)) (pm_ew_in _ (by simp [pm_ew])))
  obtain ⟨t1, t1l, t1r, t1z⟩ := pm_stat (l := [0, 0, 5, 2, 2, 0]) (hts (.laysStatic "QuestionDesk" "MOST_NUMBER" "[I") (pm_ew_in _ (by simp [pm_ew]))) (hts (.initialized "QuestionDesk") (pm_ew_in _ (by simp [pm_ew]))) (by decide) (hflat _ (pm_sw1_in _ (List.mem_of_getElem? (i := 0) rfl))) (hflat _ (pm_sw1_in _ (List.mem_of_getElem? (i := 1) rfl))) (fun j hj => hflat _ (pm_sw1_in _ (by
    have hj' : j < 6 := hj
    rcases (show j = 0 ∨ j = 1 ∨ j = 2 ∨ j = 3 ∨ j = 4 ∨ j = 5 by omega) with rfl | rfl | rfl | rfl | rfl | rfl
    all_goals first
      | exact List.mem_of_getElem? (i := 2) rfl
      | exact List.mem_of_getElem? (i := 3) rfl
      | exact List.mem_of_getElem? (i := 4) rfl
      | exact List.mem_of_getElem? (i := 5) rfl
      | exact List.mem_of_getElem? (i := 6) rfl
      | exact List.mem_of_getElem? (i := 7) rfl)))
  obtain ⟨t2, t2l, t2r, t2z⟩ := pm_stat (l := [0, 1, 2, 0, 2, 1, 1, 0, 2, 2, 0, 1, 1, 2, 0, 2, 1, 0]) (hts (.laysStatic "QuestionDesk" "LIKING_PLACES" "[I") (pm_ew_in _ (by simp [pm_ew]))) (hts (.initialized "QuestionDesk") (pm_ew_in _ (by simp [pm_ew]))) (by decide) (hflat _ (pm_sw2_in _ (List.mem_of_getElem? (i := 0) rfl))) (hflat _ (pm_sw2_in _ (List.mem_of_getElem? (i := 1) rfl))) (fun j hj => hflat _ (pm_sw2_in _ (by
    have hj' : j < 18 := hj
    rcases (show j = 0 ∨ j = 1 ∨ j = 2 ∨ j = 3 ∨ j = 4 ∨ j = 5 ∨ j = 6 ∨ j = 7 ∨ j = 8 ∨ j = 9 ∨ j = 10 ∨ j = 11 ∨ j = 12 ∨ j = 13 ∨ j = 14 ∨ j = 15 ∨ j = 16 ∨ j = 17 by omega) with rfl | rfl | rfl | rfl | rfl | rfl | rfl | rfl | rfl | rfl | rfl | rfl | rfl | rfl | rfl | rfl | rfl | rfl
    all_goals first
      | exact List.mem_of_getElem? (i := 2) rfl
      | exact List.mem_of_getElem? (i := 3) rfl
      | exact List.mem_of_getElem? (i := 4) rfl
      | exact List.mem_of_getElem? (i := 5) rfl
      | exact List.mem_of_getElem? (i := 6) rfl
      | exact List.mem_of_getElem? (i := 7) rfl
      | exact List.mem_of_getElem? (i := 8) rfl
      | exact List.mem_of_getElem? (i := 9) rfl
      | exact List.mem_of_getElem? (i := 10) rfl
      | exact List.mem_of_getElem? (i := 11) rfl
      | exact List.mem_of_getElem? (i := 12) rfl
      | exact List.mem_of_getElem? (i := 13) rfl
      | exact List.mem_of_getElem? (i := 14) rfl
      | exact List.mem_of_getElem? (i := 15) rfl
      | exact List.mem_of_getElem? (i := 16) rfl
      | exact List.mem_of_getElem? (i := 17) rfl
      | exact List.mem_of_getElem? (i := 18) rfl
      | exact List.mem_of_getElem? (i := 19) rfl)))
  obtain ⟨t3, t3l, t3r, t3z⟩ := pm_stat (l := [2, 4, 0, 5, 1, 3]) (hts (.laysStatic "QuestionDesk" "FIRST_TWO_CHANGED" "[I") (pm_ew_in _ (by simp [pm_ew]))) (hts (.initialized "QuestionDesk") (pm_ew_in _ (by simp [pm_ew]))) (by decide) (hflat _ (pm_sw3_in _ (List.mem_of_getElem? (i := 0) rfl))) (hflat _ (pm_sw3_in _ (List.mem_of_getElem? (i := 1) rfl))) (fun j hj => hflat _ (pm_sw3_in _ (by
    have hj' : j < 6 := hj
    rcases (show j = 0 ∨ j = 1 ∨ j = 2 ∨ j = 3 ∨ j = 4 ∨ j = 5 by omega) with rfl | rfl | rfl | rfl | rfl | rfl
    all_goals first
      | exact List.mem_of_getElem? (i := 2) rfl
      | exact List.mem_of_getElem? (i := 3) rfl
      | exact List.mem_of_getElem? (i := 4) rfl
      | exact List.mem_of_getElem? (i := 5) rfl
      | exact List.mem_of_getElem? (i := 6) rfl
      | exact List.mem_of_getElem? (i := 7) rfl)))
  obtain ⟨t4, t4l, t4r, t4z⟩ := pm_stat (l := [1, 0, 3, 2, 5, 4]) (hts (.laysStatic "QuestionDesk" "LAST_TWO_CHANGED" "[I") (pm_ew_in _ (by simp [pm_ew]))) (hts (.initialized "QuestionDesk") (pm_ew_in _ (by simp [pm_ew]))) (by decide) (hflat _ (pm_sw4_in _ (List.mem_of_getElem? (i := 0) rfl))) (hflat _ (pm_sw4_in _ (List.mem_of_getElem? (i := 1) rfl))) (fun j hj => hflat _ (pm_sw4_in _ (by
    have hj' : j < 6 := hj
    rcases (show j = 0 ∨ j = 1 ∨ j = 2 ∨ j = 3 ∨ j = 4 ∨ j = 5 by omega) with rfl | rfl | rfl | rfl | rfl | rfl
    all_goals first
      | exact List.mem_of_getElem? (i := 2) rfl
      | exact List.mem_of_getElem? (i := 3) rfl
      | exact List.mem_of_getElem? (i := 4) rfl
      | exact List.mem_of_getElem? (i := 5) rfl
      | exact List.mem_of_getElem? (i := 6) rfl
      | exact List.mem_of_getElem? (i := 7) rfl)))
  refine ⟨fun k => match k with | 0 => b | 1 => t1 | 2 => t2 | 3 => t3 | _ => t4, fun k => match k with | 0 => c0 | 1 => c1 | 2 => c2 | 3 => c3 | 4 => c4 | 5 => c5 | 6 => c6 | 7 => c7 | 8 => c8 | 9 => c9 | 10 => c10 | 11 => c11 | 12 => c12 | _ => c13, fun k => match k with | 0 => i0 | 1 => i1 | 2 => i2 | 3 => i3 | 4 => i4 | 5 => i5 | 6 => i6 | 7 => i7 | 8 => i8 | 9 => i9 | 10 => i10 | 11 => i11 | 12 => i12 | _ => i13, fun k => match k with | 0 => aI | 1 => aJ | 2 => aM | 3 => aT | _ => aS, rfl, ⟨?_, ?_⟩, ?_, ?_, ?_, ?_, Nat.le_refl _, ?_⟩
  · intro c q hq
    match c, hq with
    | 0, hq => cases hq; exact k0
    | 1, hq => cases hq; exact k1
    | 2, hq => cases hq; exact k2
    | 3, hq => cases hq; exact k3
    | 4, hq => cases hq; exact k4
    | 5, hq => cases hq; exact k5
    | 6, hq => cases hq; exact k6
    | 7, hq => cases hq; exact k7
    | 8, hq => cases hq; exact k8
    | 9, hq => cases hq; exact k9
    | 10, hq => cases hq; exact k10
    | 11, hq => cases hq; exact k11
    | 12, hq => cases hq; exact k12
    | 13, hq => cases hq; exact k13
    | k + 14, hq => simp [pm_cl] at hq
  · intro k q hq
    match k, hq with
    | 0, hq => cases hq; exact ⟨aI1, aI2⟩
    | 1, hq => cases hq; exact ⟨aJ1, aJ2⟩
    | 2, hq => cases hq; exact ⟨aM1, aM2⟩
    | 3, hq => cases hq; exact ⟨aT1, aT2⟩
    | 4, hq => cases hq; exact ⟨aS1, aS2⟩
    | k + 5, hq => simp [pm_tys] at hq
  · intro k n f hk
    match k, hk with
    | 0, hk => cases hk; exact ⟨pm_RO_of hX, hbl⟩
    | 1, hk => cases hk; exact ⟨t1r, t1l⟩
    | 2, hk => cases hk; exact ⟨t2r, t2l⟩
    | 3, hk => cases hk; exact ⟨t3r, t3l⟩
    | 4, hk => cases hk; exact ⟨t4r, t4l⟩
    | k + 5, hk => simp [pm_X0] at hk
  · intro q hq
    simp only [pm_sts, List.mem_cons, List.not_mem_nil, or_false] at hq
    rcases hq with rfl | rfl | rfl | rfl
    · exact t1z
    · exact t2z
    · exact t3z
    · exact t4z
  · intro q hq
    exact va_Nw.of rfl (hts _ (pm_nw_in _ (List.mem_append_left _ (List.mem_map.mpr ⟨q, hq, rfl⟩))))
  · intro q hq
    exact va_Nw.of rfl (hts _ (pm_nw_in _ (List.mem_append_right _ (List.mem_map.mpr ⟨q, hq, rfl⟩))))
  · intro C hC
    simp only [List.mem_cons, List.not_mem_nil, or_false] at hC
    rcases hC with rfl | rfl | rfl
    · exact va_AO.of (hts (.arrayOver (.object RX3)) (pm_ew_in _ (by simp [pm_ew])))
    · exact va_AO.of (hts (.arrayOver (.object RX8)) (pm_ew_in _ (by simp [pm_ew])))
    · exact va_AO.of (hts (.arrayOver (.object RX7)) (pm_ew_in _ (by simp [pm_ew])))
/-- the run of the law that is owed of the pure machine -/
def pm_Law (PR : pm_P) (L : Nat) (xs : Nat → Int32) : Prop := ∃ (d F : Nat) (S : pm_S), d ≤ 1000 ∧ S.1.length ≤ 601024 ∧ S.2 ≤ 7293034 ∧ pm_go (pm_X0 L xs) pm_Ms (pm_run (pm_X0 L xs) pm_Ms PR d) ret cd_law F 0 ([some (.ref 0), none, none, none, none, none, none, none], [], ([], 0)) = some (some (.int 1), S)
/-- the law's walk, open: out of the pure machine's run of it, and the contracts of the two methods that catch -/
theorem whole_start_open {p : Program} {e : Env} {s : State} {m : MethodId} {below : List Frame} {meth : Method} {c : Code} (l : Launch) {b L : Nat} {xs : Nat → Int32} {PR : pm_P} (hsk : ∀ mid, PR mid = none → pm_skip mid = false) (hPR : ∀ (mid : Nat) (g : List Value → pm_S → Option pm_T), PR mid = some g → ∀ (as : List Value) (S : pm_S) (t : pm_T), g as S = some t → pm_le S t.2)
    (hPC : ∀ (sa : Nat → Nat) (base : Nat) (dC : Nat → ClassId) (dI : Nat → Nat → Nat) (dA : Nat → ClassId) (X : pm_X) (mid : Nat) (mm : pm_M) (g : List Value → pm_S → Option pm_T), pm_Ms[mid]? = some mm → PR mid = some g → ∀ (d : Nat), 16 ≤ d → ∀ (as : List Value) (S : pm_S) (t : pm_T), g as S = some t → pm_CB l sa base dC dI dA X (d + 1) mm as S t)
    (hlaw : pm_Law PR L xs) (C0 : lw_At p s m meth c b L xs) : W p l e room_1 s m #[Value.ref b] below meth c s.heap [] 0 0 (lw_Z below #[Value.ref b] s) (entryFrame m ([Value.ref b] : List Value).toArray 8) := by
  obtain ⟨sa, dC, dI, dA, hsa, hK⟩ := pm_start C0
  obtain ⟨hx, hb, hr, hml, hown, hts, hX, hbl, hlocks, hgv⟩ := C0
  obtain ⟨d, F, S, hd, hS1, hS2, hgo⟩ := hlaw
  have hgood : ∀ w ∈ pm_tbl, w.before #[Value.ref b] s = true := fun w hw => hts w (List.mem_filter.mp hw).1
  have C : pm_C p room_1 s m #[Value.ref b] meth c code 8 "QuestionDeskLaw" sa s.heap.size dC dI dA (pm_X0 L xs) 0 0 S.1.length S.2 :=
    ⟨hx, hb, hml, hown, hgood, hlocks, hK, by show _ ≤ 0 + 601024; omega, by show _ ≤ 0 + 7293034; omega, by show 1 ≤ 2048; decide, by show 64 ≤ 84000; decide⟩
  have hent : pm_ent 8 [.ref 0] = some [some (.ref 0), none, none, none, none, none, none, none] := rfl
  obtain ⟨-, hLR⟩ := pm_ent_LR (ad := pm_ad sa s.heap.size) hent
  have e0 : ([Value.ref 0] : List Value).map (pm_cv (pm_ad sa s.heap.size)) = [Value.ref b] := by
    show [Value.ref (pm_ad sa s.heap.size 0)] = _
    rw [pm_ad_lo (by decide), hsa]
  rw [e0] at hLR
  rw [lg_entry_eq]
  refine pm_go_ok (d := d) (tf := (some (.int 1), S)) (ini := false) C (fun h => by cases h) (by show d + 1 ≤ 2048; omega) (by show 64 * (d + 1) ≤ 84000; omega) (pm_m_run hPR d) (pm_run_CB (fun mid mm h1 h2 => pm_ckall mid mm h1 (hsk mid h2)) hPR (hPC sa s.heap.size dC dI dA (pm_X0 L xs)) d) ?_ ck_law (Nat.le_refl _) (Nat.le_refl _) F 0 _ hgo (0, _) rfl s.heap [] _ 0 0 ⟨hLR, ?_, rfl, va_S.rf, rfl, rfl⟩
  · intro i pc f H locs ls cells slots hir hdg hR
    rcases hir with ⟨rfl, x, e1, e2, e3⟩ | ⟨rfl, x, e1, e2, e3⟩ | ⟨rfl, v, e1, e2, e3, e4⟩ | ⟨rfl, e1, e2, e3⟩
    · cases e3
      rw [e1]
      refine va_forget (fun q hq => hR.2.2.2.1.2.2 q hq) ?_
      have r5 := hR.2.2.2.2.1
      have r6 := hR.2.2.2.2.2
      refine W.widen (k := 601024) (n := 7293034) (by omega) (by omega) ?_
      exact lw_ret hx hb hr hlocks hdg
    · cases e3
    · cases e4
      cases e2
    · cases e3
  · intro k q hq
    simp [pm_W] at hq
