/-! calls: a method's contract, out of the pure machine's run of it -/
def pm_Post (sa : Nat → Nat) (base : Nat) (dC : Nat → ClassId) (dI : Nat → Nat → Nat) (dA : Nat → ClassId) (t : pm_T) (st : State) (oc : Outcome) (u : State) : Prop :=
  oc = .returned (t.1.map (pm_cv (pm_ad sa base))) ∧ va_P (dC, dI) pm_cl (pm_W (pm_ad sa base) base dA t.2.1) u.heap ∧ u.heap.size = base + t.2.1.length ∧ va_F (fun q : Nat => base ≤ q) st u
def pm_Pc (sa : Nat → Nat) (base : Nat) (dC : Nat → ClassId) (dI : Nat → Nat → Nat) (dA : Nat → ClassId) (X : pm_X) (as : List Value) (S : pm_S) : Array Value → State → Prop := fun v U =>
  v = (as.map (pm_cv (pm_ad sa base))).toArray ∧ pm_K sa base dC dI dA X U ∧ va_P (dC, dI) pm_cl (pm_W (pm_ad sa base) base dA S.1) U.heap ∧ U.heap.size = base + S.1.length
def pm_rm (d mc ms : Nat) : Room := { frames := d, cells := mc, slots := ms, locals := 64 * d }
def pm_ws (m : pm_M) : List Cond := Cond.code m.1.1 m.1.2.1 m.1.2.2.1 m.1.2.2.2 :: pm_tbl
def pm_mOK (m : pm_M) : Prop := Cond.code m.1.1 m.1.2.1 m.1.2.2.1 m.1.2.2.2 ∈ pm_tbl ∧ Cond.initialized m.1.1.cls ∈ pm_tbl ∧ plainName m.1.1.cls = true ∧ (m.1.1.cls ≠ "java/lang/invoke/MethodHandle" ∧ m.1.1.cls ≠ "java/lang/invoke/VarHandle") ∧ (parseMethodDescriptor m.1.1.desc).map (fun d => d.parameters.length) = some m.2.1.1 ∧ m.1.2.2.1 ≤ 40 ∧
  ((m.2.1.2 = 99 ∧ Cond.static m.1.1 ∈ pm_tbl) ∨ (m.2.1.2 ≠ 99 ∧ Cond.instanceMethod m.1.1 ∈ pm_tbl ∧ ((m.1.1.name = "<init>" ∧ m.1.2.2.2 = none) ∨ (m.1.1.name ≠ "<init>" ∧ Cond.selects m.1.1.cls m.1.1 m.1.1 ∈ pm_tbl ∧ ∃ r, pm_cl[m.2.1.2]? = some r ∧ r.1 = m.1.1.cls))))
section PMC
variable {sa : Nat → Nat} {base : Nat} {dC : Nat → ClassId} {dI : Nat → Nat → Nat} {dA : Nat → ClassId} {X : pm_X}
theorem pm_K.to {s U : State} {H : Heap} {locs : List Loc} (h : pm_K sa base dC dI dA X s) (hS : va_S (fun q : Nat => base ≤ q) s.heap H locs) (hU : U.heap = H) (hW : s.WarmedH U.vm) : pm_K sa base dC dI dA X U := by
  obtain ⟨h1, h2, h3, h4, h5, h6, h7⟩ := h
  subst hU
  refine ⟨va_K.moved hW.alike h1, fun k n f hx => ?_, fun q hq => ?_, fun q hq => (h4 q hq).warmM hW, fun q hq => (h5 q hq).warmF hW, Nat.le_trans h6 hS.1, fun C hC => va_AO.moved hW.alike (h7 C hC)⟩
  · obtain ⟨g1, g2⟩ := h2 k n f hx
    exact ⟨(g1.kept (hS.2.1 _ (Nat.lt_of_lt_of_le g2 h6) (Nat.not_le.mpr g2))).moved hW.alike, g2⟩
  · exact ((h3 q hq).kept (fun a ha1 ha2 => hS.2.1 a ha1 ha2)).moved hW.alike
theorem pm_blind {as : List Value} {S : pm_S} : FrameBlind (pm_Pc sa base dC dI dA X as S) := by
  intro a U g mk q
  obtain ⟨q0, ⟨h1, h2, h3, h4, h5, h6, h7⟩, q2, q3⟩ := q
  refine ⟨q0, ⟨va_K.moved (u := U) (U := U.calling g mk a) (Vm.Alike.refl U.vm) h1, fun k n f hx => ⟨pm_RO.moved (u := U) (U := U.calling g mk a) (Vm.Alike.refl U.vm) (h2 k n f hx).1, (h2 k n f hx).2⟩, fun q hq => va_Z.moved (u := U) (U := U.calling g mk a) (Vm.Alike.refl U.vm) (h3 q hq), fun q hq => (h4 q hq).same rfl rfl, fun q hq => (h5 q hq).same rfl rfl, h6, fun C hC => va_AO.moved (u := U) (U := U.calling g mk a) (Vm.Alike.refl U.vm) (h7 C hC)⟩, q2, q3⟩
theorem pm_good {m : pm_M} (h : Cond.code m.1.1 m.1.2.1 m.1.2.2.1 m.1.2.2.2 ∈ pm_tbl) : GoodIn pm_tbl (pm_ws m) := by
  have hg : ∀ w ∈ pm_tbl, w ∈ pm_tbl ∧ ((w.onTables && w.keeps) = true ∨ ∃ ty, w = .arrayClass ty) := fun w hw => ⟨hw, good_of_word (List.mem_filter.mp hw).2⟩
  intro w hw
  rcases List.mem_cons.mp hw with rfl | hw
  · exact hg _ h
  · exact hg _ hw
theorem pm_goodw {w : Cond} (hw : w ∈ pm_tbl) : w ∈ pm_tbl ∧ ((w.onTables && w.keeps) = true ∨ ∃ ty, w = .arrayClass ty) := ⟨hw, good_of_word (List.mem_filter.mp hw).2⟩
/-- how method m may be called by instruction i -/
def pm_kd (X : pm_X) (m : pm_M) (i : Instr) (idx : Nat) (as : List Value) (S : pm_S) : Prop :=
  (i = .invokestatic idx ∧ m.2.1.2 = 99 ∧ as.length = m.2.1.1) ∨ (i = .invokevirtual idx ∧ m.2.1.2 < 11 ∧ m.1.1.name ≠ "<init>" ∧ pm_rcv X S.1 m.2.1.2 as = true ∧ as.length = m.2.1.1 + 1) ∨ (i = .invokespecial idx ∧ m.2.1.2 < 11 ∧ m.1.1.name = "<init>" ∧ pm_isR as = true ∧ as.length = m.2.1.1 + 1)
def pm_CB (l : Launch) (sa : Nat → Nat) (base : Nat) (dC : Nat → ClassId) (dI : Nat → Nat → Nat) (dA : Nat → ClassId) (X : pm_X) (d : Nat) (m : pm_M) (as : List Value) (S : pm_S) (t : pm_T) : Prop :=
  ∀ (p : Program) (e : Env) (R : Room) (s : State) (mm : MethodId) (args : Array Value) (below : List Frame) (meth : Method) (c : Code) (cc : ByteArray) (nL : Nat) (own : String) (n0 sl0 nf slf pc idx : Nat) (i : Instr) (L : List (Option Value)) (rest : List Value) (H : Heap) (locs : List Loc) (ls : Array Slot) (cells slots : Nat),
    pm_C p R s mm args meth c cc nL own sa base dC dI dA X n0 sl0 nf slf → d + 1 ≤ R.frames → 64 * (d + 1) ≤ R.locals →
    pm_R sa base dC dI dA s nL n0 sl0 (L, as.reverse ++ rest, S) H locs ls cells slots → (rest.map fun v => v.category).sum ≤ 8 → pm_le S t.2 → t.2.1.length ≤ nf → t.2.2 ≤ slf →
    decode cc pc = .ok (i, 3) → pm_kd X m i idx as S → (Cond.methodLink own idx m.1.1 ∈ pm_tbl ∨ ((own, idx, m.1.1) ∈ pm_nwm ∧ ∀ k, i ≠ .invokevirtual k)) →
    va_Run p l e R s mm args below meth c H locs cells slots (t.2.1.length - S.1.length) (t.2.2 - S.2) (F0 mm pc ls ((as.reverse ++ rest).map (pm_cv (pm_ad sa base)))) (rest.map (pm_cv (pm_ad sa base))) (pm_Post sa base dC dI dA t) (fun q : Nat => base ≤ q)
theorem pm_CB_of {l : Launch} {d : Nat} {m : pm_M} {as : List Value} {S : pm_S} {t : pm_T} (hm : pm_mOK m) (hM : Met l m.1.1 (pm_ws m) (pm_rm d (t.2.1.length - S.1.length) (t.2.2 - S.2)) (pm_Pc sa base dC dI dA X as S) (fun _ => pm_Post sa base dC dI dA t) (t.2.1.length - S.1.length) (t.2.2 - S.2) (fun q : Nat => base ≤ q)) : pm_CB l sa base dC dI dA X d m as S t := by
  intro p e R s mm args below meth c cc nL own n0 sl0 nf slf pc idx i L rest H locs ls cells slots C hfr hlo hR hsum hle hnf hsl hdg hkd hlk
  obtain ⟨hx, hb, hml, hown, hts, hlk0, hK, hc1, hc2, hf1, hl1⟩ := C
  obtain ⟨w1, w2, w3, w4, w5, w6, w7⟩ := hm
  obtain ⟨r1, r2, r3, r4, r5, r6⟩ := hR
  dsimp only at r3 r5 r6
  have hpre : ∀ U : State, U.heap = H → s.WarmedH U.vm → pm_Pc sa base dC dI dA X as S (as.map (pm_cv (pm_ad sa base))).toArray U := fun U hU hW => ⟨rfl, hK.to r4 hU hW, by rw [hU]; exact r2, by rw [hU]; exact r3⟩
  have hRoom : (pm_rm d (t.2.1.length - S.1.length) (t.2.2 - S.2)).frames + 1 ≤ R.frames ∧ 8 + (m.1.2.2.1 + 11) + (pm_rm d (t.2.1.length - S.1.length) (t.2.2 - S.2)).locals ≤ R.locals := ⟨hfr, by show 8 + (m.1.2.2.1 + 11) + 64 * d ≤ _; omega⟩
  have hcs : cells + (t.2.1.length - S.1.length) ≤ R.cells ∧ slots + (t.2.2 - S.2) ≤ R.slots := by
    have := hle.1; have := hle.2
    constructor <;> omega
  have hst : (as.reverse ++ rest).map (pm_cv (pm_ad sa base)) = (as.map (pm_cv (pm_ad sa base))).reverse ++ rest.map (pm_cv (pm_ad sa base)) := by simp
  have hsm : 2 * (F0 mm pc ls ((as.reverse ++ rest).map (pm_cv (pm_ad sa base)))).monitorRoom + ((rest.map (pm_cv (pm_ad sa base))).map fun v => v.category).sum ≤ 8 := lv_room (by rw [pm_cv_sum]; exact hsum)
  have hszl : (F0 mm pc ls ((as.reverse ++ rest).map (pm_cv (pm_ad sa base)))).locals.size = nL := r1.2.1
  have S0 : CallFix p mm c cc nL s args pm_tbl own := ⟨hx, hb, hml, hown, hts⟩
  rcases hkd with ⟨rfl, hst9, hlen⟩ | ⟨rfl, hci, hnm, hrc, hlen⟩ | ⟨rfl, hci, hnm, hrc, hlen⟩
  · have hstat : Cond.static m.1.1 ∈ pm_tbl := by
      rcases w7 with w7 | w7
      · exact w7.2
      · exact absurd hst9 w7.1
    have hln : (as.map (pm_cv (pm_ad sa base))).length = m.2.1.1 := by rw [List.length_map]; exact hlen
    rcases hlk with hlk | hlk
    · exact va_runS S0 hM (va_cwS m.2.1.1 hts (fun w hw => by
        unfold va_wsS at hw
        rcases List.mem_append.mp hw with hw | hw
        · simp only [List.mem_cons, List.not_mem_nil, or_false] at hw
          rcases hw with rfl | rfl | rfl
          · exact pm_goodw hlk
          · exact pm_goodw hstat
          · exact pm_goodw w2
        · exact pm_good w1 w hw) rfl rfl rfl ⟨w4.1, w4.2, w5⟩ hRoom) ⟨pm_blind, hpre⟩ rfl hln hszl hst hsm hdg hcs
    · exact va_runSN S0 hM ⟨va_cnB m.2.1.1 hts (pm_good w1) rfl rfl rfl (hK.2.2.2.1 _ hlk.1) (hts _ w2) ⟨w4.1, w4.2, w5⟩ hRoom, hts _ hstat, trivial⟩ ⟨pm_blind, hpre⟩ rfl hln hszl hst hsm hdg hcs
  · obtain ⟨ho, hsel, rr, hrr, hrn⟩ : Cond.instanceMethod m.1.1 ∈ pm_tbl ∧ Cond.selects m.1.1.cls m.1.1 m.1.1 ∈ pm_tbl ∧ ∃ r, pm_cl[m.2.1.2]? = some r ∧ r.1 = m.1.1.cls := by
      rcases w7 with w7 | w7
      · omega
      · rcases w7.2.2 with h | h
        · exact absurd h.1 hnm
        · exact ⟨w7.2.1, h.2⟩
    have hlk : Cond.methodLink own idx m.1.1 ∈ pm_tbl := by
      rcases hlk with h | h
      · exact h
      · exact absurd rfl (h.2 idx)
    unfold pm_rcv at hrc
    split at hrc
    · rename_i a as2
      split at hrc
      · cases hrc
      · rename_i ha
        split at hrc
        · rename_i ci fs hg
          have hci2 : ci = m.2.1.2 := by simpa using hrc
          subst hci2
          rw [pm_get_hi ha] at hg
          have hat := pm_W_at (ad := pm_ad sa base) (base := base) (dA := dA) hg
          have e1 : pm_cv (pm_ad sa base) (.ref a) = .ref (base + (a - 8)) := by show Value.ref _ = _; rw [pm_ad_hi ha]
          have hrecv := va_recv hK.1 r2 hrr hat
          rw [hrn] at hrecv
          simp only [List.map_cons, e1] at hpre
          have hln : (as2.map (pm_cv (pm_ad sa base))).length = m.2.1.1 := by rw [List.length_map]; simp at hlen; exact hlen
          refine va_runV S0 hM (cwV m.2.1.1 hts (fun w hw => ?_) rfl rfl rfl ⟨rfl, w4.1, w4.2, w5⟩ hRoom) ⟨pm_blind, hrecv, hpre⟩ rfl hln hszl (by rw [hst]; simp [e1]) hsm hdg hcs
          unfold wsV at hw
          rcases List.mem_append.mp hw with hw | hw
          · simp only [List.mem_cons, List.not_mem_nil, or_false] at hw
            rcases hw with rfl | rfl | rfl | rfl
            · exact pm_goodw hlk
            · exact pm_goodw ho
            · exact pm_goodw hsel
            · exact pm_goodw w2
          · exact pm_good w1 w hw
        · cases hrc
    · cases hrc
  · have ho : Cond.instanceMethod m.1.1 ∈ pm_tbl := by
      rcases w7 with w7 | w7
      · omega
      · exact w7.2.1
    unfold pm_isR at hrc
    split at hrc
    · rename_i a as2
      have e1 : pm_cv (pm_ad sa base) (.ref a) = .ref (pm_ad sa base a) := rfl
      simp only [List.map_cons, e1] at hpre
      have hln : (as2.map (pm_cv (pm_ad sa base))).length = m.2.1.1 := by rw [List.length_map]; simp at hlen; exact hlen
      have hret : m.1.2.2.2 = none := by
        rcases w7 with w7 | w7
        · omega
        · rcases w7.2.2 with h | h
          · exact h.2
          · exact absurd hnm h.1
      rcases hlk with hlk | hlk
      · refine va_runI S0 hM (cwI m.2.1.1 hts (pm_good w1) (by unfold pm_ws; rw [hret]) rfl rfl (hts _ w2) (hts _ hlk) (hts _ ho) hnm ⟨w4.1, w4.2, w5⟩ hRoom) ⟨pm_blind, hpre⟩ rfl hln hszl (by rw [hst]; simp [e1]) hsm hdg hcs
      · refine va_runIN S0 hM ⟨va_cnB m.2.1.1 hts (pm_good w1) (by unfold pm_ws; rw [hret]) rfl rfl (hK.2.2.2.1 _ hlk.1) (hts _ w2) ⟨w4.1, w4.2, w5⟩ hRoom, hnm, hts _ ho⟩ ⟨pm_blind, hpre⟩ rfl hln hszl (by rw [hst]; simp [e1]) hsm hdg hcs
    · cases hrc
end PMC
