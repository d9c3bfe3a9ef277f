/-! the reference reads a text: parts are closed; the whole is read as the pure reader says -/
section
variable {X : pm_X} {PR : pm_P} {s : QST} {Q : QPost} {dd z n : Nat} {B : Nat → Nat}
theorem w_part_end {d : Nat} {n0 nd : Int32} {L4 : Option Value} (hk : Q none s) : qW X PR d none cd_Model_part 4 [some (.ref 163), some (.int n0), some (.int nd), some (.int (nI 0)), L4] [] s Q := by
  refine qW.blk rfl ?_
  refine qv_iload rfl ?_
  refine qv_if_eq_t rfl (tgt := 25) rfl ?_
  refine qW.blk rfl ?_
  exact qv_ret rfl hk
theorem w_part_run (hP : pm_np PR) {d : Nat} (hd : 1 ≤ d) {o : Nat} (h26 : qF s 163 26 = nI o) (ho : o ≤ 6) (n0 : Int32) (hk : qW X PR (d - 1) none cd_Model_part 4 [some (.ref 163), some (.int n0), some (.int n0), some (.int (nI (if o = 0 then 0 else 1))), none] [] s Q) : qP X PR d 185 [.ref 163, .int n0] s Q := by
  refine qP.of (L := [_, _, _, _, _]) (by omega) (hP _ rfl) ms_Model_part rfl ?_
  show qW X PR (d - 1) (none) cd_Model_part 0 _ _ _ _
  by_cases h0 : o = 0
  · rw [if_pos h0] at hk
    refine qW.blk rfl ?_
    refine qv_iload rfl ?_
    refine qv_istore (L' := [_, _, _, _, _]) rfl ?_
    refine qv_aload rfl ?_
    refine qv_gi ly_163 ⟨rfl, rfl, rfl⟩ (h26) ?_
    refine qv_if_leNt rfl (by omega) (by omega) (tgt := 2) rfl ?_
    refine qW.blk rfl ?_
    refine qv_iconst (v := 0) rfl ?_
    refine qv_nil (nx := 3) rfl ?_
    refine qW.blk rfl ?_
    refine qv_istore (L' := [_, _, _, _, _]) rfl ?_
    refine qv_nil (nx := 4) rfl ?_
    exact hk
  · rw [if_neg h0] at hk
    refine qW.blk rfl ?_
    refine qv_iload rfl ?_
    refine qv_istore (L' := [_, _, _, _, _]) rfl ?_
    refine qv_aload rfl ?_
    refine qv_gi ly_163 ⟨rfl, rfl, rfl⟩ (h26) ?_
    refine qv_if_leNf rfl (by omega) (by omega) (nx := 1) rfl ?_
    refine qW.blk rfl ?_
    refine qv_iconst (v := 1) rfl ?_
    refine qv_goto (tgt := 3) rfl ?_
    refine qW.blk rfl ?_
    refine qv_istore (L' := [_, _, _, _, _]) rfl ?_
    refine qv_nil (nx := 4) rfl ?_
    exact hk
theorem w_part_first_y (hP : pm_np PR) {d : Nat} (hd : 3 ≤ d) {a c q o kd x y nd : Nat} {u : TR} {n0 : Int32} {L4 : Option Value} (hB : PB s dd z n B) (hdd : dd < 8) (hz : z ≤ 120) (hR : RS0 s a c q (o + 1) 0) (hN : ndr s c u) (ho : o < 6) (hT : stp s o kd x y (-1)) (hkd : kd = 1 ∨ kd = 2) (hc : isc B z (if kd = 1 then 118 else 47) a) (hk : ∀ s', pf s s' → RS0 s' (a + 1) c q (o + 1) 0 → ndr s' c u → stk s s' o → stp s' o kd x y (nI nd) → Q none s') : qW X PR (d - 1) none cd_Model_part 4 [some (.ref 163), some (.int n0), some (.int (nI nd)), some (.int (nI 1)), L4] [] s Q := by
  obtain ⟨h13, h14, h15, h16, h26, h27⟩ := hR
  obtain ⟨t1, t2, t3, t4⟩ := hT
  have st : qW X PR (d - 1) (none) cd_Model_part 4 [some (.ref (163)), some (.int (n0)), some (.int (nI nd)), some (.int (nI 1)), L4] [] s Q := by
    have fin : Q none (uE (uF (uF s 163 14 0) 163 13 (nI (a + 1))) 179 o (nI nd)) := by
      refine hk _ (((pf.rf s).sF (by omega)).sF (by omega) |>.sE (by omega)) ⟨?_, ?_, ?_, ?_, ?_, ?_⟩ (hN.cg (fun k h1 h2 => by rw [qE_uEc (by omega)]; rfl)) (fun i hi => ⟨?_, ?_, ?_, ?_⟩) ⟨?_, ?_, ?_, fun k => ?_⟩
      · rw [qF_uE, qF_uFs]
      · rw [qF_uE, qF_uFk (by decide), qF_uFs]
      · rw [qF_uE, qF_uFk (by decide), qF_uFk (by decide)]; exact h15
      · rw [qF_uE, qF_uFk (by decide), qF_uFk (by decide)]; exact h16
      · rw [qF_uE, qF_uFk (by decide), qF_uFk (by decide)]; exact h26
      · rw [qF_uE, qF_uFk (by decide), qF_uFk (by decide)]; exact h27
      · rw [qE_uEc (by decide)]; rfl
      · rw [qE_uEk (by omega)]; rfl
      · rw [qE_uEc (by decide)]; rfl
      · rw [qE_uEc (by decide)]; rfl
      · rw [qE_uEc (by decide)]; exact t1
      · rw [qE_uEs]
      · rw [qE_uEc (by decide)]; exact t3
      · rw [qE_uEc (by decide)]; exact t4 k
    have o6 : o < 6 := ho
    rcases hkd with h | h
    · subst h
      rw [if_pos rfl] at hc
      refine qW.blk rfl ?_
      refine qv_iload rfl ?_
      refine qv_if_eqNf rfl (by omega) (by omega) (nx := 5) rfl ?_
      refine qW.blk rfl ?_
      refine qv_aload rfl ?_
      refine qv_gi ly_163 ⟨rfl, rfl, rfl⟩ (h26) ?_
      refine qv_iconst (v := 1) rfl ?_
      refine qv_isubN (q := 1) rfl rfl (by omega) ?_
      refine qv_istore (L' := [_, _, _, _, _]) rfl ?_
      refine qv_aload rfl ?_
      refine qv_gr ly_163 ⟨rfl, rfl, rfl⟩ (by omega) ?_
      refine qv_iload rfl ?_
      refine qv_ia ly_179 rfl (by omega) (by decide) (t2) ?_
      refine qv_if_ge_f (by decide) (nx := 6) rfl ?_
      refine qW.blk rfl ?_
      refine qv_aload rfl ?_
      refine qv_aload rfl ?_
      refine qv_gr ly_163 ⟨rfl, rfl, rfl⟩ (by omega) ?_
      refine qv_iload rfl ?_
      refine qv_ia ly_178 rfl (by omega) (by decide) (t1) ?_
      refine qv_iconst (v := 1) rfl ?_
      refine qv_icmp_neNf (q := 1) rfl rfl (by omega) (by omega) (by omega) (nx := 7) rfl ?_
      refine qW.blk rfl ?_
      refine qv_iconst (v := 118) rfl ?_
      refine qv_goto (tgt := 9) rfl ?_
      refine qW.blk rfl ?_
      refine qv_virt (ly_163.rcv _) sg_Model_take rfl rfl (w_take_y hP (by omega) (a := a) (c := 118) hB hdd hz h13 (by decide) hc ?_) 
      refine qv_if_eq_f (by decide) (nx := 10) rfl ?_
      refine qW.blk rfl ?_
      refine qv_aload rfl ?_
      refine qv_gr ly_163 ⟨rfl, rfl, rfl⟩ (by omega) ?_
      refine qv_iload rfl ?_
      refine qv_iload rfl ?_
      refine qv_is ly_179 rfl (by omega) (by decide) ?_
      refine qv_nil (nx := 11) rfl ?_
      refine qW.blk rfl ?_
      refine qv_iconst (v := 0) rfl ?_
      refine qv_istore (L' := [_, _, _, _, _]) rfl ?_
      refine qv_goto (tgt := 24) rfl ?_
      refine qW.blk rfl ?_
      refine qv_goto (tgt := 4) rfl ?_
      refine qW.blk rfl ?_
      refine qv_iload rfl ?_
      refine qv_if_eqNt (p := 0) rfl (by omega) (by omega) (tgt := 25) rfl ?_
      refine qW.blk rfl ?_
      refine qv_ret rfl ?_
      exact fin
    · subst h
      rw [if_neg (by decide)] at hc
      refine qW.blk rfl ?_
      refine qv_iload rfl ?_
      refine qv_if_eqNf rfl (by omega) (by omega) (nx := 5) rfl ?_
      refine qW.blk rfl ?_
      refine qv_aload rfl ?_
      refine qv_gi ly_163 ⟨rfl, rfl, rfl⟩ (h26) ?_
      refine qv_iconst (v := 1) rfl ?_
      refine qv_isubN (q := 1) rfl rfl (by omega) ?_
      refine qv_istore (L' := [_, _, _, _, _]) rfl ?_
      refine qv_aload rfl ?_
      refine qv_gr ly_163 ⟨rfl, rfl, rfl⟩ (by omega) ?_
      refine qv_iload rfl ?_
      refine qv_ia ly_179 rfl (by omega) (by decide) (t2) ?_
      refine qv_if_ge_f (by decide) (nx := 6) rfl ?_
      refine qW.blk rfl ?_
      refine qv_aload rfl ?_
      refine qv_aload rfl ?_
      refine qv_gr ly_163 ⟨rfl, rfl, rfl⟩ (by omega) ?_
      refine qv_iload rfl ?_
      refine qv_ia ly_178 rfl (by omega) (by decide) (t1) ?_
      refine qv_iconst (v := 1) rfl ?_
      refine qv_icmp_neNt (q := 1) rfl rfl (by omega) (by omega) (by omega) (tgt := 8) rfl ?_
      refine qW.blk rfl ?_
      refine qv_iconst (v := 47) rfl ?_
      refine qv_nil (nx := 9) rfl ?_
      refine qW.blk rfl ?_
      refine qv_virt (ly_163.rcv _) sg_Model_take rfl rfl (w_take_y hP (by omega) (a := a) (c := 47) hB hdd hz h13 (by decide) hc ?_) 
      refine qv_if_eq_f (by decide) (nx := 10) rfl ?_
      refine qW.blk rfl ?_
      refine qv_aload rfl ?_
      refine qv_gr ly_163 ⟨rfl, rfl, rfl⟩ (by omega) ?_
      refine qv_iload rfl ?_
      refine qv_iload rfl ?_
      refine qv_is ly_179 rfl (by omega) (by decide) ?_
      refine qv_nil (nx := 11) rfl ?_
      refine qW.blk rfl ?_
      refine qv_iconst (v := 0) rfl ?_
      refine qv_istore (L' := [_, _, _, _, _]) rfl ?_
      refine qv_goto (tgt := 24) rfl ?_
      refine qW.blk rfl ?_
      refine qv_goto (tgt := 4) rfl ?_
      refine qW.blk rfl ?_
      refine qv_iload rfl ?_
      refine qv_if_eqNt (p := 0) rfl (by omega) (by omega) (tgt := 25) rfl ?_
      refine qW.blk rfl ?_
      refine qv_ret rfl ?_
      exact fin
  exact st
theorem w_part_first_n (hP : pm_np PR) {d : Nat} (hd : 3 ≤ d) {a c q o kd x y nd : Nat} {n0 : Int32} {L4 : Option Value} (hB : PB s dd z n B) (hdd : dd < 8) (hz : z ≤ 120) (hR : RS0 s a c q (o + 1) 0) (ho : o < 6) (haz : a ≤ z) (hT : stp s o kd x y (-1)) (hkd : kd = 1 ∨ kd = 2) (hc : ¬ isc B z (if kd = 1 then 118 else 47) a) (hk : ∀ s', pf s s' → qF s' 163 13 = nI a → qF s' 163 14 = 1 → Q none s') : qW X PR (d - 1) none cd_Model_part 4 [some (.ref 163), some (.int n0), some (.int (nI nd)), some (.int (nI 1)), L4] [] s Q := by
  obtain ⟨h13, h14, h15, h16, h26, h27⟩ := hR
  obtain ⟨t1, t2, t3, t4⟩ := hT
  have st : qW X PR (d - 1) (none) cd_Model_part 4 [some (.ref (163)), some (.int (n0)), some (.int (nI nd)), some (.int (nI 1)), L4] [] s Q := by
    have fin : Q none (uF (uF s 163 14 1) 163 13 (nI a)) := hk _ (((pf.rf s).sF (by omega)).sF (by omega)) qF_uFs (by rw [qF_uFk (by decide), qF_uFs])
    rcases hkd with h | h
    · subst h
      rw [if_pos rfl] at hc
      refine qW.blk rfl ?_
      refine qv_iload rfl ?_
      refine qv_if_eqNf rfl (by omega) (by omega) (nx := 5) rfl ?_
      refine qW.blk rfl ?_
      refine qv_aload rfl ?_
      refine qv_gi ly_163 ⟨rfl, rfl, rfl⟩ (h26) ?_
      refine qv_iconst (v := 1) rfl ?_
      refine qv_isubN (q := 1) rfl rfl (by omega) ?_
      refine qv_istore (L' := [_, _, _, _, _]) rfl ?_
      refine qv_aload rfl ?_
      refine qv_gr ly_163 ⟨rfl, rfl, rfl⟩ (by omega) ?_
      refine qv_iload rfl ?_
      refine qv_ia ly_179 rfl (by omega) (by decide) (t2) ?_
      refine qv_if_ge_f (by decide) (nx := 6) rfl ?_
      refine qW.blk rfl ?_
      refine qv_aload rfl ?_
      refine qv_aload rfl ?_
      refine qv_gr ly_163 ⟨rfl, rfl, rfl⟩ (by omega) ?_
      refine qv_iload rfl ?_
      refine qv_ia ly_178 rfl (by omega) (by decide) (t1) ?_
      refine qv_iconst (v := 1) rfl ?_
      refine qv_icmp_neNf (q := 1) rfl rfl (by omega) (by omega) (by omega) (nx := 7) rfl ?_
      refine qW.blk rfl ?_
      refine qv_iconst (v := 118) rfl ?_
      refine qv_goto (tgt := 9) rfl ?_
      refine qW.blk rfl ?_
      refine qv_virt (ly_163.rcv _) sg_Model_take rfl rfl (w_take_n hP (by omega) (a := a) (c := 118) hB hdd hz h13 haz (by decide) hc ?_) 
      refine qv_if_eq_t (rfl) (tgt := 11) rfl ?_
      refine qW.blk rfl ?_
      refine qv_iconst (v := 0) rfl ?_
      refine qv_istore (L' := [_, _, _, _, _]) rfl ?_
      refine qv_goto (tgt := 24) rfl ?_
      refine qW.blk rfl ?_
      refine qv_goto (tgt := 4) rfl ?_
      refine qW.blk rfl ?_
      refine qv_iload rfl ?_
      refine qv_if_eqNt (p := 0) rfl (by omega) (by omega) (tgt := 25) rfl ?_
      refine qW.blk rfl ?_
      refine qv_ret rfl ?_
      exact fin
    · subst h
      rw [if_neg (by decide)] at hc
      refine qW.blk rfl ?_
      refine qv_iload rfl ?_
      refine qv_if_eqNf rfl (by omega) (by omega) (nx := 5) rfl ?_
      refine qW.blk rfl ?_
      refine qv_aload rfl ?_
      refine qv_gi ly_163 ⟨rfl, rfl, rfl⟩ (h26) ?_
      refine qv_iconst (v := 1) rfl ?_
      refine qv_isubN (q := 1) rfl rfl (by omega) ?_
      refine qv_istore (L' := [_, _, _, _, _]) rfl ?_
      refine qv_aload rfl ?_
      refine qv_gr ly_163 ⟨rfl, rfl, rfl⟩ (by omega) ?_
      refine qv_iload rfl ?_
      refine qv_ia ly_179 rfl (by omega) (by decide) (t2) ?_
      refine qv_if_ge_f (by decide) (nx := 6) rfl ?_
      refine qW.blk rfl ?_
      refine qv_aload rfl ?_
      refine qv_aload rfl ?_
      refine qv_gr ly_163 ⟨rfl, rfl, rfl⟩ (by omega) ?_
      refine qv_iload rfl ?_
      refine qv_ia ly_178 rfl (by omega) (by decide) (t1) ?_
      refine qv_iconst (v := 1) rfl ?_
      refine qv_icmp_neNt (q := 1) rfl rfl (by omega) (by omega) (by omega) (tgt := 8) rfl ?_
      refine qW.blk rfl ?_
      refine qv_iconst (v := 47) rfl ?_
      refine qv_nil (nx := 9) rfl ?_
      refine qW.blk rfl ?_
      refine qv_virt (ly_163.rcv _) sg_Model_take rfl rfl (w_take_n hP (by omega) (a := a) (c := 47) hB hdd hz h13 haz (by decide) hc ?_) 
      refine qv_if_eq_t (rfl) (tgt := 11) rfl ?_
      refine qW.blk rfl ?_
      refine qv_iconst (v := 0) rfl ?_
      refine qv_istore (L' := [_, _, _, _, _]) rfl ?_
      refine qv_goto (tgt := 24) rfl ?_
      refine qW.blk rfl ?_
      refine qv_goto (tgt := 4) rfl ?_
      refine qW.blk rfl ?_
      refine qv_iload rfl ?_
      refine qv_if_eqNt (p := 0) rfl (by omega) (by omega) (tgt := 25) rfl ?_
      refine qW.blk rfl ?_
      refine qv_ret rfl ?_
      exact fin
  exact st
theorem w_part_close_n (hP : pm_np PR) {d : Nat} (hd : 3 ≤ d) {a c q o kd x y lf nd : Nat} {n0 : Int32} {L4 : Option Value} (hB : PB s dd z n B) (hdd : dd < 8) (hz : z ≤ 120) (hR : RS0 s a c q (o + 1) 0) (ho : o < 6) (haz : a ≤ z) (hlf : lf < 110) (hT : stp s o kd x y (nI lf)) (hkd : kd = 1 ∨ kd = 2) (hc : ¬ isc B z (if kd = 1 then 41 else 125) a) (hk : ∀ s', pf s s' → qF s' 163 13 = nI a → qF s' 163 14 = 1 → Q none s') : qW X PR (d - 1) none cd_Model_part 4 [some (.ref 163), some (.int n0), some (.int (nI nd)), some (.int (nI 1)), L4] [] s Q := by
  obtain ⟨h13, h14, h15, h16, h26, h27⟩ := hR
  obtain ⟨t1, t2, t3, t4⟩ := hT
  have st : qW X PR (d - 1) (none) cd_Model_part 4 [some (.ref (163)), some (.int (n0)), some (.int (nI nd)), some (.int (nI 1)), L4] [] s Q := by
    have fin : Q none (uF (uF s 163 14 1) 163 13 (nI a)) := hk _ (((pf.rf s).sF (by omega)).sF (by omega)) qF_uFs (by rw [qF_uFk (by decide), qF_uFs])
    rcases hkd with h | h
    · subst h
      rw [if_pos rfl] at hc
      refine qW.blk rfl ?_
      refine qv_iload rfl ?_
      refine qv_if_eqNf rfl (by omega) (by omega) (nx := 5) rfl ?_
      refine qW.blk rfl ?_
      refine qv_aload rfl ?_
      refine qv_gi ly_163 ⟨rfl, rfl, rfl⟩ (h26) ?_
      refine qv_iconst (v := 1) rfl ?_
      refine qv_isubN (q := 1) rfl rfl (by omega) ?_
      refine qv_istore (L' := [_, _, _, _, _]) rfl ?_
      refine qv_aload rfl ?_
      refine qv_gr ly_163 ⟨rfl, rfl, rfl⟩ (by omega) ?_
      refine qv_iload rfl ?_
      refine qv_ia ly_179 rfl (by omega) (by decide) (t2) ?_
      refine qv_if_geNt rfl (by omega) (by omega) (tgt := 12) rfl ?_
      refine qW.blk rfl ?_
      refine qv_aload rfl ?_
      refine qv_aload rfl ?_
      refine qv_gr ly_163 ⟨rfl, rfl, rfl⟩ (by omega) ?_
      refine qv_iload rfl ?_
      refine qv_ia ly_178 rfl (by omega) (by decide) (t1) ?_
      refine qv_iconst (v := 1) rfl ?_
      refine qv_icmp_neNf (q := 1) rfl rfl (by omega) (by omega) (by omega) (nx := 13) rfl ?_
      refine qW.blk rfl ?_
      refine qv_iconst (v := 41) rfl ?_
      refine qv_goto (tgt := 15) rfl ?_
      refine qW.blk rfl ?_
      refine qv_virt (ly_163.rcv _) sg_Model_take rfl rfl (w_take_n hP (by omega) (a := a) (c := 41) hB hdd hz h13 haz (by decide) hc ?_) 
      refine qv_if_eq_t (rfl) (tgt := 23) rfl ?_
      refine qW.blk rfl ?_
      refine qv_iconst (v := 0) rfl ?_
      refine qv_istore (L' := [_, _, _, _, _]) rfl ?_
      refine qv_nil (nx := 24) rfl ?_
      refine qW.blk rfl ?_
      refine qv_goto (tgt := 4) rfl ?_
      refine qW.blk rfl ?_
      refine qv_iload rfl ?_
      refine qv_if_eqNt (p := 0) rfl (by omega) (by omega) (tgt := 25) rfl ?_
      refine qW.blk rfl ?_
      refine qv_ret rfl ?_
      exact fin
    · subst h
      rw [if_neg (by decide)] at hc
      refine qW.blk rfl ?_
      refine qv_iload rfl ?_
      refine qv_if_eqNf rfl (by omega) (by omega) (nx := 5) rfl ?_
      refine qW.blk rfl ?_
      refine qv_aload rfl ?_
      refine qv_gi ly_163 ⟨rfl, rfl, rfl⟩ (h26) ?_
      refine qv_iconst (v := 1) rfl ?_
      refine qv_isubN (q := 1) rfl rfl (by omega) ?_
      refine qv_istore (L' := [_, _, _, _, _]) rfl ?_
      refine qv_aload rfl ?_
      refine qv_gr ly_163 ⟨rfl, rfl, rfl⟩ (by omega) ?_
      refine qv_iload rfl ?_
      refine qv_ia ly_179 rfl (by omega) (by decide) (t2) ?_
      refine qv_if_geNt rfl (by omega) (by omega) (tgt := 12) rfl ?_
      refine qW.blk rfl ?_
      refine qv_aload rfl ?_
      refine qv_aload rfl ?_
      refine qv_gr ly_163 ⟨rfl, rfl, rfl⟩ (by omega) ?_
      refine qv_iload rfl ?_
      refine qv_ia ly_178 rfl (by omega) (by decide) (t1) ?_
      refine qv_iconst (v := 1) rfl ?_
      refine qv_icmp_neNt (q := 1) rfl rfl (by omega) (by omega) (by omega) (tgt := 14) rfl ?_
      refine qW.blk rfl ?_
      refine qv_iconst (v := 125) rfl ?_
      refine qv_nil (nx := 15) rfl ?_
      refine qW.blk rfl ?_
      refine qv_virt (ly_163.rcv _) sg_Model_take rfl rfl (w_take_n hP (by omega) (a := a) (c := 125) hB hdd hz h13 haz (by decide) hc ?_) 
      refine qv_if_eq_t (rfl) (tgt := 23) rfl ?_
      refine qW.blk rfl ?_
      refine qv_iconst (v := 0) rfl ?_
      refine qv_istore (L' := [_, _, _, _, _]) rfl ?_
      refine qv_nil (nx := 24) rfl ?_
      refine qW.blk rfl ?_
      refine qv_goto (tgt := 4) rfl ?_
      refine qW.blk rfl ?_
      refine qv_iload rfl ?_
      refine qv_if_eqNt (p := 0) rfl (by omega) (by omega) (tgt := 25) rfl ?_
      refine qW.blk rfl ?_
      refine qv_ret rfl ?_
      exact fin
  exact st
theorem w_part_close_y (hP : pm_np PR) {d : Nat} (hd : 3 ≤ d) {a c q o kd x y lf nd : Nat} {u : TR} {n0 : Int32} {L4 : Option Value} (hB : PB s dd z n B) (hdd : dd < 8) (hz : z ≤ 120) (hR : RS0 s a c q (o + 1) 0) (hN : ndr s c u) (ho : o < 6) (hlf : lf < 110) (hcb : c < 110) (hT : stp s o kd x y (nI lf)) (hkd : kd = 1 ∨ kd = 2) (hc : isc B z (if kd = 1 then 41 else 125) a) (hk : ∀ s' (L4 : Option Value), pf s s' → RS0 s' (a + 1) (c + 1) q o (if o = 0 then 1 else 0) → ndr s' (c + 1) (updN u c (kd, lf, nd, x, y)) → stk s s' o → qW X PR (d - 1) none cd_Model_part 4 [some (.ref 163), some (.int n0), some (.int (nI c)), some (.int (nI (if o = 0 then 0 else 1))), L4] [] s' Q) : qW X PR (d - 1) none cd_Model_part 4 [some (.ref 163), some (.int n0), some (.int (nI nd)), some (.int (nI 1)), L4] [] s Q := by
  obtain ⟨h13, h14, h15, h16, h26, h27⟩ := hR
  obtain ⟨t1, t2, t3, t4⟩ := hT
  obtain ⟨s1, hs1⟩ : ∃ s1, s1 = uF (uF s 163 14 0) 163 13 (nI (a + 1)) := ⟨_, rfl⟩
  have F1 : pf s s1 := by rw [hs1]; exact ((pf.rf s).sF (by omega)).sF (by omega)
  have e1 : ∀ k, k ≠ 13 → k ≠ 14 → qF s1 163 k = qF s 163 k := fun k a1 a2 => by rw [hs1, qF_uFk a1, qF_uFk a2]
  have e13 : qF s1 163 13 = nI (a + 1) := by rw [hs1, qF_uFs]
  have e14 : qF s1 163 14 = 0 := by rw [hs1, qF_uFk (by decide), qF_uFs]
  have eE : qE s1 = qE s := by rw [hs1]; rfl
  have e26 : qF s1 163 26 = nI (o + 1) := by rw [e1 26 (by decide) (by decide)]; exact h26
  have e15 : qF s1 163 15 = nI c := by rw [e1 15 (by decide) (by decide)]; exact h15
  -- the node is added
  obtain ⟨s2, hs2⟩ : ∃ s2, s2 = uF (uE (uE (uE (uE (uE s1 173 c (nI kd)) 174 c (nI lf)) 175 c (nI nd)) 176 c (nI x)) 177 c (qE s1 181 o)) 163 15 (nI (c + 1)) := ⟨_, rfl⟩
  have F2 : pf s1 s2 := by rw [hs2]; exact ((((((pf.rf s1).sE (by omega)).sE (by omega)).sE (by omega)).sE (by omega)).sE (by omega)).sF (by omega)
  have f2 : ∀ k, k ≠ 15 → qF s2 163 k = qF s1 163 k := fun k a1 => by rw [hs2, qF_uFk a1, qF_uE, qF_uE, qF_uE, qF_uE, qF_uE]
  have f15 : qF s2 163 15 = nI (c + 1) := by rw [hs2, qF_uFs]
  have f26 : qF s2 163 26 = nI (o + 1) := by rw [f2 26 (by decide)]; exact e26
  have hy : kd = 2 → qE s1 181 o = nI y := fun k => by rw [eE]; exact t4 k
  have n2 : ndr s2 (c + 1) (updN u c (kd, lf, nd, x, y)) := by
    have := (hN.cg (t := s1) (fun k _ _ => by rw [eE])).add (k := nI kd) (l := nI lf) (r := nI nd) (x := nI x) (y := qE s1 181 o) (t := (kd, lf, nd, x, y)) rfl (fun _ => ⟨rfl, rfl⟩) rfl hy
    refine this.cg (fun k _ _ => ?_)
    rw [hs2, qE_uF]
  have g2 : ∀ k, 178 ≤ k → qE s2 k = qE s k := fun k h => by rw [hs2, qE_uF, qE_uEc (by omega), qE_uEc (by omega), qE_uEc (by omega), qE_uEc (by omega), qE_uEc (by omega), eE]
  have goal : ∀ (dn : Nat) (L4 : Option Value), dn = (if o = 0 then 1 else 0) → qW X PR (d - 1) none cd_Model_part 4 [some (.ref 163), some (.int n0), some (.int (nI c)), some (.int (nI (if o = 0 then 0 else 1))), L4] [] (uF (uF s2 163 26 (nI o)) 163 27 (nI dn)) Q := fun dn L4 hdn => by
    refine hk _ L4 (((F1.trans F2).sF (by omega)).sF (by omega)) ⟨?_, ?_, ?_, ?_, ?_, ?_⟩ (n2.cg (fun k _ _ => rfl)) (stk.of (fun k h1 _ => g2 k h1))
    · rw [qF_uFk (by decide), qF_uFk (by decide), f2 13 (by decide)]; exact e13
    · rw [qF_uFk (by decide), qF_uFk (by decide), f2 14 (by decide)]; exact e14
    · rw [qF_uFk (by decide), qF_uFk (by decide)]; exact f15
    · rw [qF_uFk (by decide), qF_uFk (by decide), f2 16 (by decide), e1 16 (by decide) (by decide)]; exact h16
    · rw [qF_uFk (by decide), qF_uFs]
    · rw [qF_uFs, hdn]
  have g178 : qE s1 178 o = nI kd := by rw [eE]; exact t1
  have g179 : qE s1 179 o = nI lf := by rw [eE]; exact t2
  have g180 : qE s1 180 o = nI x := by rw [eE]; exact t3
  have b16 : qW X PR (d - 1) (none) cd_Model_part 16 [some (.ref (163)), some (.int (n0)), some (.int (nI nd)), some (.int (nI 1)), some (.int (nI o))] [] s1 Q := by
    by_cases h0 : o = 0
    · have gl := goal 1
      rw [if_pos h0, if_pos h0] at gl
      subst hs2
      refine qW.blk rfl ?_
      refine qv_aload rfl ?_
      refine qv_aload rfl ?_
      refine qv_gr ly_163 ⟨rfl, rfl, rfl⟩ (by omega) ?_
      refine qv_iload rfl ?_
      refine qv_ia ly_178 rfl (by omega) (by decide) (g178) ?_
      refine qv_aload rfl ?_
      refine qv_gr ly_163 ⟨rfl, rfl, rfl⟩ (by omega) ?_
      refine qv_iload rfl ?_
      refine qv_ia ly_179 rfl (by omega) (by decide) (g179) ?_
      refine qv_iload rfl ?_
      refine qv_aload rfl ?_
      refine qv_gr ly_163 ⟨rfl, rfl, rfl⟩ (by omega) ?_
      refine qv_iload rfl ?_
      refine qv_ia ly_180 rfl (by omega) (by decide) (g180) ?_
      refine qv_aload rfl ?_
      refine qv_gr ly_163 ⟨rfl, rfl, rfl⟩ (by omega) ?_
      refine qv_iload rfl ?_
      refine qv_ia ly_181 rfl (by omega) (by decide) (rfl) ?_
      refine qv_virt (ly_163.rcv _) sg_Model_add rfl rfl (w_madd hP (by omega) (nI kd) (nI lf) (nI nd) (nI x) (qE s1 181 o) e15 hcb ?_) 
      refine qv_istore (L' := [_, _, _, _, _]) rfl ?_
      refine qv_aload rfl ?_
      refine qv_dup rfl ?_
      refine qv_gi ly_163 ⟨rfl, rfl, rfl⟩ (f26) ?_
      refine qv_iconst (v := 1) rfl ?_
      refine qv_isubN (q := 1) rfl rfl (by omega) ?_
      refine qv_pi ly_163 ⟨rfl, rfl, rfl⟩ (rfl) ?_
      refine qv_aload rfl ?_
      refine qv_gi ly_163 ⟨rfl, rfl, rfl⟩ (qF_uFs) ?_
      refine qv_if_leNt rfl (by omega) (by omega) (tgt := 18) rfl ?_
      refine qW.blk rfl ?_
      refine qv_iconst (v := 0) rfl ?_
      refine qv_nil (nx := 19) rfl ?_
      refine qW.blk rfl ?_
      refine qv_istore (L' := [_, _, _, _, _]) rfl ?_
      refine qv_aload rfl ?_
      refine qv_aload rfl ?_
      refine qv_gi ly_163 ⟨rfl, rfl, rfl⟩ (qF_uFs) ?_
      refine qv_if_neNf rfl (by omega) (by omega) (nx := 20) rfl ?_
      refine qW.blk rfl ?_
      refine qv_iconst (v := 1) rfl ?_
      refine qv_goto (tgt := 22) rfl ?_
      refine qW.blk rfl ?_
      refine qv_pi ly_163 ⟨rfl, rfl, rfl⟩ (rfl) ?_
      refine qv_goto (tgt := 24) rfl ?_
      refine qW.blk rfl ?_
      refine qv_goto (tgt := 4) rfl ?_
      exact gl _ rfl
    · have gl := goal 0
      rw [if_neg h0, if_neg h0] at gl
      subst hs2
      refine qW.blk rfl ?_
      refine qv_aload rfl ?_
      refine qv_aload rfl ?_
      refine qv_gr ly_163 ⟨rfl, rfl, rfl⟩ (by omega) ?_
      refine qv_iload rfl ?_
      refine qv_ia ly_178 rfl (by omega) (by decide) (g178) ?_
      refine qv_aload rfl ?_
      refine qv_gr ly_163 ⟨rfl, rfl, rfl⟩ (by omega) ?_
      refine qv_iload rfl ?_
      refine qv_ia ly_179 rfl (by omega) (by decide) (g179) ?_
      refine qv_iload rfl ?_
      refine qv_aload rfl ?_
      refine qv_gr ly_163 ⟨rfl, rfl, rfl⟩ (by omega) ?_
      refine qv_iload rfl ?_
      refine qv_ia ly_180 rfl (by omega) (by decide) (g180) ?_
      refine qv_aload rfl ?_
      refine qv_gr ly_163 ⟨rfl, rfl, rfl⟩ (by omega) ?_
      refine qv_iload rfl ?_
      refine qv_ia ly_181 rfl (by omega) (by decide) (rfl) ?_
      refine qv_virt (ly_163.rcv _) sg_Model_add rfl rfl (w_madd hP (by omega) (nI kd) (nI lf) (nI nd) (nI x) (qE s1 181 o) e15 hcb ?_) 
      refine qv_istore (L' := [_, _, _, _, _]) rfl ?_
      refine qv_aload rfl ?_
      refine qv_dup rfl ?_
      refine qv_gi ly_163 ⟨rfl, rfl, rfl⟩ (f26) ?_
      refine qv_iconst (v := 1) rfl ?_
      refine qv_isubN (q := 1) rfl rfl (by omega) ?_
      refine qv_pi ly_163 ⟨rfl, rfl, rfl⟩ (rfl) ?_
      refine qv_aload rfl ?_
      refine qv_gi ly_163 ⟨rfl, rfl, rfl⟩ (qF_uFs) ?_
      refine qv_if_leNf rfl (by omega) (by omega) (nx := 17) rfl ?_
      refine qW.blk rfl ?_
      refine qv_iconst (v := 1) rfl ?_
      refine qv_goto (tgt := 19) rfl ?_
      refine qW.blk rfl ?_
      refine qv_istore (L' := [_, _, _, _, _]) rfl ?_
      refine qv_aload rfl ?_
      refine qv_aload rfl ?_
      refine qv_gi ly_163 ⟨rfl, rfl, rfl⟩ (qF_uFs) ?_
      refine qv_if_neNt rfl (by omega) (by omega) (tgt := 21) rfl ?_
      refine qW.blk rfl ?_
      refine qv_iconst (v := 0) rfl ?_
      refine qv_nil (nx := 22) rfl ?_
      refine qW.blk rfl ?_
      refine qv_pi ly_163 ⟨rfl, rfl, rfl⟩ (rfl) ?_
      refine qv_goto (tgt := 24) rfl ?_
      refine qW.blk rfl ?_
      refine qv_goto (tgt := 4) rfl ?_
      exact gl _ rfl
  have st : qW X PR (d - 1) (none) cd_Model_part 4 [some (.ref (163)), some (.int (n0)), some (.int (nI nd)), some (.int (nI 1)), L4] [] s Q := by
    subst hs1
    rcases hkd with h | h
    · subst h
      rw [if_pos rfl] at hc
      refine qW.blk rfl ?_
      refine qv_iload rfl ?_
      refine qv_if_eqNf rfl (by omega) (by omega) (nx := 5) rfl ?_
      refine qW.blk rfl ?_
      refine qv_aload rfl ?_
      refine qv_gi ly_163 ⟨rfl, rfl, rfl⟩ (h26) ?_
      refine qv_iconst (v := 1) rfl ?_
      refine qv_isubN (q := 1) rfl rfl (by omega) ?_
      refine qv_istore (L' := [_, _, _, _, _]) rfl ?_
      refine qv_aload rfl ?_
      refine qv_gr ly_163 ⟨rfl, rfl, rfl⟩ (by omega) ?_
      refine qv_iload rfl ?_
      refine qv_ia ly_179 rfl (by omega) (by decide) (t2) ?_
      refine qv_if_geNt rfl (by omega) (by omega) (tgt := 12) rfl ?_
      refine qW.blk rfl ?_
      refine qv_aload rfl ?_
      refine qv_aload rfl ?_
      refine qv_gr ly_163 ⟨rfl, rfl, rfl⟩ (by omega) ?_
      refine qv_iload rfl ?_
      refine qv_ia ly_178 rfl (by omega) (by decide) (t1) ?_
      refine qv_iconst (v := 1) rfl ?_
      refine qv_icmp_neNf (q := 1) rfl rfl (by omega) (by omega) (by omega) (nx := 13) rfl ?_
      refine qW.blk rfl ?_
      refine qv_iconst (v := 41) rfl ?_
      refine qv_goto (tgt := 15) rfl ?_
      refine qW.blk rfl ?_
      refine qv_virt (ly_163.rcv _) sg_Model_take rfl rfl (w_take_y hP (by omega) (a := a) (c := 41) hB hdd hz h13 (by decide) hc ?_) 
      refine qv_if_eq_f (by decide) (nx := 16) rfl ?_
      exact b16
    · subst h
      rw [if_neg (by decide)] at hc
      refine qW.blk rfl ?_
      refine qv_iload rfl ?_
      refine qv_if_eqNf rfl (by omega) (by omega) (nx := 5) rfl ?_
      refine qW.blk rfl ?_
      refine qv_aload rfl ?_
      refine qv_gi ly_163 ⟨rfl, rfl, rfl⟩ (h26) ?_
      refine qv_iconst (v := 1) rfl ?_
      refine qv_isubN (q := 1) rfl rfl (by omega) ?_
      refine qv_istore (L' := [_, _, _, _, _]) rfl ?_
      refine qv_aload rfl ?_
      refine qv_gr ly_163 ⟨rfl, rfl, rfl⟩ (by omega) ?_
      refine qv_iload rfl ?_
      refine qv_ia ly_179 rfl (by omega) (by decide) (t2) ?_
      refine qv_if_geNt rfl (by omega) (by omega) (tgt := 12) rfl ?_
      refine qW.blk rfl ?_
      refine qv_aload rfl ?_
      refine qv_aload rfl ?_
      refine qv_gr ly_163 ⟨rfl, rfl, rfl⟩ (by omega) ?_
      refine qv_iload rfl ?_
      refine qv_ia ly_178 rfl (by omega) (by decide) (t1) ?_
      refine qv_iconst (v := 1) rfl ?_
      refine qv_icmp_neNt (q := 1) rfl rfl (by omega) (by omega) (by omega) (tgt := 14) rfl ?_
      refine qW.blk rfl ?_
      refine qv_iconst (v := 125) rfl ?_
      refine qv_nil (nx := 15) rfl ?_
      refine qW.blk rfl ?_
      refine qv_virt (ly_163.rcv _) sg_Model_take rfl rfl (w_take_y hP (by omega) (a := a) (c := 125) hB hdd hz h13 (by decide) hc ?_) 
      refine qv_if_eq_f (by decide) (nx := 16) rfl ?_
      exact b16
  exact st
end
