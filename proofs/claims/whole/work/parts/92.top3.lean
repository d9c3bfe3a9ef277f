/-! top is alike, its Sim -/
section
variable {X : pm_X} {PR : pm_P}
theorem Sim_top (hP : pm_np PR) (w : Int32) : Sim X PR 139 225 [.int w] := by
  intro d A hd hA
  have hC := hA.1
  have hn1 := hC.1
  have hn7 := hC.2.1
  obtain ⟨hd1⟩ : Nonempty (∀ x, Decidable (tops (cvw (aC A)) (aC A 0) x)) := ⟨fun _ => Classical.propDecidable _⟩
  obtain ⟨hd2⟩ : Nonempty (∀ x, Decidable (covd (cvw (aC A)) (aC A 0) x)) := ⟨fun _ => Classical.propDecidable _⟩
  by_cases h0 : ∃ j, j ≤ 1 ∧ w = nI j
  · obtain ⟨j, hj, rfl⟩ := h0
    have ij : nI 0 ≤ nI j ∧ nI j ≤ nI 1 := (w_iff (by omega) (by omega) (by omega)).mpr ⟨by omega, hj⟩
    rcases (show j = 0 ∨ j = 1 by omega) with h | h
    · subst h
      refine ⟨.int (nI (bsN (tops (cvw (aC A)) (aC A 0)) (aC A 0))), A, hA, ?_, ?_⟩
      · intro s Q hJ hk
        refine qP.of (L := [_, _]) (by omega) (hP _ rfl) ms_Desk_top rfl ?_
        show qW X PR (d - 1) (some .int) cd_Desk_top 0 _ _ _ _
        refine qW.blk rfl ?_
        refine qv_iload rfl ?_
        refine qv_iconst (v := 0) rfl ?_
        refine qv_iconst (v := 1) rfl ?_
        refine qv_staticE sg_Desk_within rfl (r_Desk_within hP (by omega) (nI 0) (nI 0) (nI 1) _) ?_
        refine qv_if_ne_t (bI_ne.mpr (ij)) (tgt := 2) rfl ?_
        refine qW.blk rfl ?_
        refine qv_aload rfl ?_
        refine qv_virt (ly_8.rcv _) sg_Desk_weighOrders rfl rfl (w_weighOrders hP (by omega) hJ.1 hC (fun t1 F1 g1 => ?_)) 
        refine qv_iload rfl ?_
        refine qv_if_ne_f (fun q => q rfl) (nx := 3) rfl ?_
        refine qW.blk rfl ?_
        refine qv_aload rfl ?_
        refine qv_gr ly_8 ⟨rfl, rfl, rfl⟩ (by omega) ?_
        refine qv_virt (ly_111.rcv _) sg_Orders_topBits rfl rfl (w_topBits hP (by omega) g1 hn7 ?_) 
        refine qv_goto (tgt := 5) rfl ?_
        refine qW.blk rfl ?_
        refine qv_iret (rfl) ?_
        exact hk t1 (hJ.fr hA F1 (by omega)) (F1.c (by omega) (by omega))
      · intro s Q hJ hk
        have J1 := hJ.thr (v := 0)
        have rv := rview_neu J1.1 hC J1.2.2.2.2.2
        have fin := hk (uF s 163 0 0) J1 ((qfr.rf s).uF (by omega))
        have e0 := J1.1 0 (by decide)
        have ea := all7 (aC A 0) (by omega)
        have ha := (all_bit (aC A 0) (by omega)).2
        refine qP.of (L := [_, _, _, _, _]) (by omega) (hP _ rfl) ms_Model_top rfl ?_
        show qW X PR (d - 1) (some .int) cd_Model_top 0 _ _ _ _
        have loop : ∀ (c x : Nat) (L4 : Option Value), x + c = aC A 0 → qW X PR (d - 1) (some .int) cd_Model_top 3 [some (.ref (163)), some (.int (nI 0)), some (.int (nI (bsN (tops (cvw (aC A)) (aC A 0)) x))), some (.int (nI x)), L4] [] (uF s 163 0 0) Q := by
          intro c
          induction c with
          | zero =>
            intro x L4 hx
            have e : x = aC A 0 := by omega
            rw [e]
            refine qW.blk rfl ?_
            refine qv_iload rfl ?_
            refine qv_aload rfl ?_
            refine qv_gr ly_163 ⟨rfl, rfl, rfl⟩ (by omega) ?_
            refine qv_iconst (v := 0) rfl ?_
            refine qv_ia (j := 0) ly_164 rfl (by omega) (by decide) (e0) ?_
            refine qv_icmp_geNt rfl rfl (by omega) (by omega) (by omega) (tgt := 15) rfl ?_
            refine qW.blk rfl ?_
            refine qv_iload rfl ?_
            refine qv_iret (rfl) ?_
            exact fin
          | succ c ih =>
            intro x L4 hx
            have hb := bsN_or (P := tops (cvw (aC A)) (aC A 0)) (n := x) (by omega)
            have nx := fun L4 => ih (x + 1) L4 (by omega)
            by_cases hc : tops (cvw (aC A)) (aC A 0) x
            · have e2 := hb.1 hc
              refine qW.blk rfl ?_
              refine qv_iload rfl ?_
              refine qv_aload rfl ?_
              refine qv_gr ly_163 ⟨rfl, rfl, rfl⟩ (by omega) ?_
              refine qv_iconst (v := 0) rfl ?_
              refine qv_ia (j := 0) ly_164 rfl (by omega) (by decide) (e0) ?_
              refine qv_icmp_geNf rfl rfl (by omega) (by omega) (by omega) (nx := 4) rfl ?_
              refine qW.blk rfl ?_
              refine qv_iload rfl ?_
              refine qv_if_ne_f (fun q => q rfl) (nx := 5) rfl ?_
              refine qW.blk rfl ?_
              refine qv_aload rfl ?_
              refine qv_iload rfl ?_
              refine qv_virt (ly_163.rcv _) sg_Model_reachedFrom rfl rfl (w_M_reachedFrom hP (by omega) rv e0 hn7 (by omega) (fun T hT1 hT2 => ?_)) 
              refine qv_iconst (v := 1) rfl ?_
              refine qv_aload rfl ?_
              refine qv_gr ly_163 ⟨rfl, rfl, rfl⟩ (by omega) ?_
              refine qv_iconst (v := 0) rfl ?_
              refine qv_ia (j := 0) ly_164 rfl (by omega) (by decide) (e0) ?_
              refine qv_ishl ?_
              refine qv_iconst (v := 1) rfl ?_
              refine qv_isub ?_
              refine qv_icmp_ne_f (fun q => q ((congrArg nI ((RS_all hn7 (by omega) hT1 hT2).mpr hc)).trans ea.symm)) (nx := 6) rfl ?_
              refine qW.blk rfl ?_
              refine qv_iconst (v := 1) rfl ?_
              refine qv_goto (tgt := 11) rfl ?_
              refine qW.blk rfl ?_
              refine qv_istore (L' := [_, _, _, _, _]) rfl ?_
              refine qv_iload rfl ?_
              refine qv_iload rfl ?_
              refine qv_if_eq_f (by decide) (nx := 12) rfl ?_
              refine qW.blk rfl ?_
              refine qv_iconst (v := 1) rfl ?_
              refine qv_iload rfl ?_
              refine qv_ishl ?_
              refine qv_goto (tgt := 14) rfl ?_
              refine qW.blk rfl ?_
              refine qv_ior ?_
              refine qv_top (e2) ?_
              refine qv_istore (L' := [_, _, _, _, _]) rfl ?_
              refine qv_iinc (L' := [_, _, _, _, _]) rfl (nI_succ _).symm rfl ?_
              refine qv_goto (tgt := 3) rfl ?_
              exact nx _
            · have e2 : nI (bsN (tops (cvw (aC A)) (aC A 0)) x) ||| 0 = nI (bsN (tops (cvw (aC A)) (aC A 0)) (x + 1)) := by rw [Int32.or_zero, ← hb.2 hc]
              refine qW.blk rfl ?_
              refine qv_iload rfl ?_
              refine qv_aload rfl ?_
              refine qv_gr ly_163 ⟨rfl, rfl, rfl⟩ (by omega) ?_
              refine qv_iconst (v := 0) rfl ?_
              refine qv_ia (j := 0) ly_164 rfl (by omega) (by decide) (e0) ?_
              refine qv_icmp_geNf rfl rfl (by omega) (by omega) (by omega) (nx := 4) rfl ?_
              refine qW.blk rfl ?_
              refine qv_iload rfl ?_
              refine qv_if_ne_f (fun q => q rfl) (nx := 5) rfl ?_
              refine qW.blk rfl ?_
              refine qv_aload rfl ?_
              refine qv_iload rfl ?_
              refine qv_virt (ly_163.rcv _) sg_Model_reachedFrom rfl rfl (w_M_reachedFrom hP (by omega) rv e0 hn7 (by omega) (fun T hT1 hT2 => ?_)) 
              refine qv_iconst (v := 1) rfl ?_
              refine qv_aload rfl ?_
              refine qv_gr ly_163 ⟨rfl, rfl, rfl⟩ (by omega) ?_
              refine qv_iconst (v := 0) rfl ?_
              refine qv_ia (j := 0) ly_164 rfl (by omega) (by decide) (e0) ?_
              refine qv_ishl ?_
              refine qv_iconst (v := 1) rfl ?_
              refine qv_isub ?_
              refine qv_icmp_ne_t (fun q => hc ((RS_all hn7 (by omega) hT1 hT2).mp ((nI_eq (by omega) (by omega)).mp (q.trans ea)))) (tgt := 7) rfl ?_
              refine qW.blk rfl ?_
              refine qv_iconst (v := 0) rfl ?_
              refine qv_goto (tgt := 11) rfl ?_
              refine qW.blk rfl ?_
              refine qv_istore (L' := [_, _, _, _, _]) rfl ?_
              refine qv_iload rfl ?_
              refine qv_iload rfl ?_
              refine qv_if_eq_t (rfl) (tgt := 13) rfl ?_
              refine qW.blk rfl ?_
              refine qv_iconst (v := 0) rfl ?_
              refine qv_nil (nx := 14) rfl ?_
              refine qW.blk rfl ?_
              refine qv_ior ?_
              refine qv_top (e2) ?_
              refine qv_istore (L' := [_, _, _, _, _]) rfl ?_
              refine qv_iinc (L' := [_, _, _, _, _]) rfl (nI_succ _).symm rfl ?_
              refine qv_goto (tgt := 3) rfl ?_
              exact nx _
        refine qW.blk rfl ?_
        refine qv_aload rfl ?_
        refine qv_iconst (v := 0) rfl ?_
        refine qv_pi ly_163 ⟨rfl, rfl, rfl⟩ (rfl) ?_
        refine qv_iload rfl ?_
        refine qv_iconst (v := 0) rfl ?_
        refine qv_iconst (v := 1) rfl ?_
        refine qv_staticE sg_Model_in rfl (r_Model_in hP (by omega) (nI 0) (nI 0) (nI 1) _) ?_
        refine qv_if_ne_t (bI_ne.mpr (ij)) (tgt := 2) rfl ?_
        refine qW.blk rfl ?_
        refine qv_iconst (v := 0) rfl ?_
        refine qv_istore (L' := [_, _, _, _, _]) rfl ?_
        refine qv_iconst (v := 0) rfl ?_
        refine qv_istore (L' := [_, _, _, _, _]) rfl ?_
        refine qv_nil (nx := 3) rfl ?_
        exact loop (aC A 0) 0 _ (by omega)
    · subst h
      refine ⟨.int (nI (bsN (fun x => ¬ covd (cvw (aC A)) (aC A 0) x) (aC A 0))), A, hA, ?_, ?_⟩
      · intro s Q hJ hk
        refine qP.of (L := [_, _]) (by omega) (hP _ rfl) ms_Desk_top rfl ?_
        show qW X PR (d - 1) (some .int) cd_Desk_top 0 _ _ _ _
        refine qW.blk rfl ?_
        refine qv_iload rfl ?_
        refine qv_iconst (v := 0) rfl ?_
        refine qv_iconst (v := 1) rfl ?_
        refine qv_staticE sg_Desk_within rfl (r_Desk_within hP (by omega) (nI 1) (nI 0) (nI 1) _) ?_
        refine qv_if_ne_t (bI_ne.mpr (ij)) (tgt := 2) rfl ?_
        refine qW.blk rfl ?_
        refine qv_aload rfl ?_
        refine qv_virt (ly_8.rcv _) sg_Desk_weighOrders rfl rfl (w_weighOrders hP (by omega) hJ.1 hC (fun t1 F1 g1 => ?_)) 
        refine qv_iload rfl ?_
        refine qv_if_ne_t (by decide) (tgt := 4) rfl ?_
        refine qW.blk rfl ?_
        refine qv_aload rfl ?_
        refine qv_gr ly_8 ⟨rfl, rfl, rfl⟩ (by omega) ?_
        refine qv_virt (ly_111.rcv _) sg_Orders_uncoveredBits rfl rfl (w_uncoveredBits hP (by omega) g1 hn7 ?_) 
        refine qv_nil (nx := 5) rfl ?_
        refine qW.blk rfl ?_
        refine qv_iret (rfl) ?_
        exact hk t1 (hJ.fr hA F1 (by omega)) (F1.c (by omega) (by omega))
      · intro s Q hJ hk
        have J1 := hJ.thr (v := 0)
        have rv := rview_neu J1.1 hC J1.2.2.2.2.2
        have fin := hk (uF s 163 0 0) J1 ((qfr.rf s).uF (by omega))
        have e0 := J1.1 0 (by decide)
        refine qP.of (L := [_, _, _, _, _]) (by omega) (hP _ rfl) ms_Model_top rfl ?_
        show qW X PR (d - 1) (some .int) cd_Model_top 0 _ _ _ _
        have loop : ∀ (c x : Nat) (L4 : Option Value), x + c = aC A 0 → qW X PR (d - 1) (some .int) cd_Model_top 3 [some (.ref (163)), some (.int (nI 1)), some (.int (nI (bsN (fun x => ¬ covd (cvw (aC A)) (aC A 0) x) x))), some (.int (nI x)), L4] [] (uF s 163 0 0) Q := by
          intro c
          induction c with
          | zero =>
            intro x L4 hx
            have e : x = aC A 0 := by omega
            rw [e]
            refine qW.blk rfl ?_
            refine qv_iload rfl ?_
            refine qv_aload rfl ?_
            refine qv_gr ly_163 ⟨rfl, rfl, rfl⟩ (by omega) ?_
            refine qv_iconst (v := 0) rfl ?_
            refine qv_ia (j := 0) ly_164 rfl (by omega) (by decide) (e0) ?_
            refine qv_icmp_geNt rfl rfl (by omega) (by omega) (by omega) (tgt := 15) rfl ?_
            refine qW.blk rfl ?_
            refine qv_iload rfl ?_
            refine qv_iret (rfl) ?_
            exact fin
          | succ c ih =>
            intro x L4 hx
            have hb := bsN_or (P := fun x => ¬ covd (cvw (aC A)) (aC A 0) x) (n := x) (by omega)
            have nx := fun L4 => ih (x + 1) L4 (by omega)
            by_cases hc : covd (cvw (aC A)) (aC A 0) x
            · have e2 : nI (bsN (fun x => ¬ covd (cvw (aC A)) (aC A 0) x) x) ||| 0 = nI (bsN (fun x => ¬ covd (cvw (aC A)) (aC A 0) x) (x + 1)) := by rw [Int32.or_zero, ← hb.2 (fun z => z hc)]
              refine qW.blk rfl ?_
              refine qv_iload rfl ?_
              refine qv_aload rfl ?_
              refine qv_gr ly_163 ⟨rfl, rfl, rfl⟩ (by omega) ?_
              refine qv_iconst (v := 0) rfl ?_
              refine qv_ia (j := 0) ly_164 rfl (by omega) (by decide) (e0) ?_
              refine qv_icmp_geNf rfl rfl (by omega) (by omega) (by omega) (nx := 4) rfl ?_
              refine qW.blk rfl ?_
              refine qv_iload rfl ?_
              refine qv_if_ne_t (by decide) (tgt := 8) rfl ?_
              refine qW.blk rfl ?_
              refine qv_aload rfl ?_
              refine qv_iload rfl ?_
              refine qv_virt (ly_163.rcv _) sg_Model_isCovered rfl rfl (w_M_isCovered hP (by omega) rv e0 hn7 (by omega) ?_) 
              refine qv_if_ne_t (bI_ne.mpr (hc)) (tgt := 10) rfl ?_
              refine qW.blk rfl ?_
              refine qv_iconst (v := 0) rfl ?_
              refine qv_nil (nx := 11) rfl ?_
              refine qW.blk rfl ?_
              refine qv_istore (L' := [_, _, _, _, _]) rfl ?_
              refine qv_iload rfl ?_
              refine qv_iload rfl ?_
              refine qv_if_eq_t (rfl) (tgt := 13) rfl ?_
              refine qW.blk rfl ?_
              refine qv_iconst (v := 0) rfl ?_
              refine qv_nil (nx := 14) rfl ?_
              refine qW.blk rfl ?_
              refine qv_ior ?_
              refine qv_top (e2) ?_
              refine qv_istore (L' := [_, _, _, _, _]) rfl ?_
              refine qv_iinc (L' := [_, _, _, _, _]) rfl (nI_succ _).symm rfl ?_
              refine qv_goto (tgt := 3) rfl ?_
              exact nx _
            · have e2 := hb.1 hc
              refine qW.blk rfl ?_
              refine qv_iload rfl ?_
              refine qv_aload rfl ?_
              refine qv_gr ly_163 ⟨rfl, rfl, rfl⟩ (by omega) ?_
              refine qv_iconst (v := 0) rfl ?_
              refine qv_ia (j := 0) ly_164 rfl (by omega) (by decide) (e0) ?_
              refine qv_icmp_geNf rfl rfl (by omega) (by omega) (by omega) (nx := 4) rfl ?_
              refine qW.blk rfl ?_
              refine qv_iload rfl ?_
              refine qv_if_ne_t (by decide) (tgt := 8) rfl ?_
              refine qW.blk rfl ?_
              refine qv_aload rfl ?_
              refine qv_iload rfl ?_
              refine qv_virt (ly_163.rcv _) sg_Model_isCovered rfl rfl (w_M_isCovered hP (by omega) rv e0 hn7 (by omega) ?_) 
              refine qv_if_ne_f (fun zq => zq (bI_f (hc))) (nx := 9) rfl ?_
              refine qW.blk rfl ?_
              refine qv_iconst (v := 1) rfl ?_
              refine qv_goto (tgt := 11) rfl ?_
              refine qW.blk rfl ?_
              refine qv_istore (L' := [_, _, _, _, _]) rfl ?_
              refine qv_iload rfl ?_
              refine qv_iload rfl ?_
              refine qv_if_eq_f (by decide) (nx := 12) rfl ?_
              refine qW.blk rfl ?_
              refine qv_iconst (v := 1) rfl ?_
              refine qv_iload rfl ?_
              refine qv_ishl ?_
              refine qv_goto (tgt := 14) rfl ?_
              refine qW.blk rfl ?_
              refine qv_ior ?_
              refine qv_top (e2) ?_
              refine qv_istore (L' := [_, _, _, _, _]) rfl ?_
              refine qv_iinc (L' := [_, _, _, _, _]) rfl (nI_succ _).symm rfl ?_
              refine qv_goto (tgt := 3) rfl ?_
              exact nx _
        refine qW.blk rfl ?_
        refine qv_aload rfl ?_
        refine qv_iconst (v := 0) rfl ?_
        refine qv_pi ly_163 ⟨rfl, rfl, rfl⟩ (rfl) ?_
        refine qv_iload rfl ?_
        refine qv_iconst (v := 0) rfl ?_
        refine qv_iconst (v := 1) rfl ?_
        refine qv_staticE sg_Model_in rfl (r_Model_in hP (by omega) (nI 1) (nI 0) (nI 1) _) ?_
        refine qv_if_ne_t (bI_ne.mpr (ij)) (tgt := 2) rfl ?_
        refine qW.blk rfl ?_
        refine qv_iconst (v := 0) rfl ?_
        refine qv_istore (L' := [_, _, _, _, _]) rfl ?_
        refine qv_iconst (v := 0) rfl ?_
        refine qv_istore (L' := [_, _, _, _, _]) rfl ?_
        refine qv_nil (nx := 3) rfl ?_
        exact loop (aC A 0) 0 _ (by omega)
  · have hj : ¬ (0 ≤ w ∧ w ≤ nI 1) := fun z => h0 ((in_nI (n := 1) (by omega)).mp z)
    refine ⟨.int (-1), A, hA, ?_, ?_⟩
    · intro s Q hJ hk
      refine qP.of (L := [_, _]) (by omega) (hP _ rfl) ms_Desk_top rfl ?_
      show qW X PR (d - 1) (some .int) cd_Desk_top 0 _ _ _ _
      refine qW.blk rfl ?_
      refine qv_iload rfl ?_
      refine qv_iconst (v := 0) rfl ?_
      refine qv_iconst (v := 1) rfl ?_
      refine qv_staticE sg_Desk_within rfl (r_Desk_within hP (by omega) w 0 (nI 1) _) ?_
      refine qv_if_ne_f (fun zq => zq (bI_f (hj))) (nx := 1) rfl ?_
      refine qW.blk rfl ?_
      refine qv_iconst (v := (-1)) rfl ?_
      refine qv_iret (rfl) ?_
      exact hk s hJ (cfr.rf s)
    · intro s Q hJ hk
      refine qP.of (L := [_, _, _, _, _]) (by omega) (hP _ rfl) ms_Model_top rfl ?_
      show qW X PR (d - 1) (some .int) cd_Model_top 0 _ _ _ _
      refine qW.blk rfl ?_
      refine qv_aload rfl ?_
      refine qv_iconst (v := 0) rfl ?_
      refine qv_pi ly_163 ⟨rfl, rfl, rfl⟩ (rfl) ?_
      refine qv_iload rfl ?_
      refine qv_iconst (v := 0) rfl ?_
      refine qv_iconst (v := 1) rfl ?_
      refine qv_staticE sg_Model_in rfl (r_Model_in hP (by omega) w 0 (nI 1) _) ?_
      refine qv_if_ne_f (fun zq => zq (bI_f (hj))) (nx := 1) rfl ?_
      refine qW.blk rfl ?_
      refine qv_iconst (v := (-1)) rfl ?_
      refine qv_iret (rfl) ?_
      exact hk (uF s 163 0 0) hJ.thr ((qfr.rf s).uF (by omega))
end
