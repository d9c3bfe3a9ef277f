/-! ask, why, parts are alike -/
theorem hok.fr82 {s s' : QST} {N p : Nat} (h : hok s N p) (F : qfr 76 82 s s') : hok s' N p := h.cg F (by omega) (by omega)
section
variable {X : pm_X} {PR : pm_P}
/-- of a QUESTION's node: its parts -/
theorem iso_q {D : TD} (hD : tdOK D) {n : Nat} (hn : n < D.2.2.2.1) (h1 : (D.1 n).1 = 1) : n + 1 < D.2.2.2.1 ∧ (D.1 n).2.2.1 < D.2.2.2.1 ∧ D.2.2.1 n < D.2.2.2.1 ∧ (D.2.1 (D.2.2.1 n)).1 = 1 ∧ (D.2.1 (D.2.2.1 n)).2.1 = D.2.2.1 (n + 1) ∧ (D.2.1 (D.2.2.1 n)).2.2.1 = D.2.2.1 (D.1 n).2.2.1 ∧ D.2.2.1 (n + 1) < D.2.2.2.1 ∧ D.2.2.1 (D.1 n).2.2.1 < D.2.2.2.1 := by
  obtain ⟨-, -, hpre, -, ⟨i1, i2, i3, i4⟩, -⟩ := hD
  obtain ⟨p1, p2, p3⟩ := (hpre n hn).2.2.2 (by omega)
  obtain ⟨u1, u2, u3, u4, u5⟩ := i4 n hn
  exact ⟨p1, p3, i2 n hn, u1.trans h1, (u4 (by omega)).1, (u4 (by omega)).2, i2 _ p1, i2 _ p3⟩
theorem Sim_ask (hP : pm_np PR) (t q w : Int32) : Sim X PR 127 210 [.int t, .int q, .int w] := by
  intro d A hd hA
  have hC := hA.1
  have h12 := hC.2.2.2.2.1
  rcases pl_of t (aC A 3) with ⟨k, hk3, rfl⟩ | hn
  · have hD := hA.2.2.2.1 k hk3
    have hK := hD.2.1
    have hQ := hD.2.2.2.2.2.1
    have hQb := qah_bd (t := (aT A k).1) (aT A k).2.2.2.1
    rcases pl_of q (aT A k).2.2.2.2.1 with ⟨j, hj, rfl⟩ | hnq
    · by_cases hw : 0 ≤ w ∧ w ≤ nI 2
      · obtain ⟨n, hn, h1, hq⟩ := qah_find (t := (aT A k).1) (aT A k).2.2.2.1 j (by omega)
        subst hq
        obtain ⟨p1, p2, p3, k1, k2, k3, p4, p5⟩ := iso_q hD hn h1
        obtain ⟨o, ho, rfl⟩ := (in_nI (n := 2) (by omega)).mp hw
        obtain ⟨r, hr⟩ : ∃ r : Int32, (if o = 0 then (gval (cvw (aC A)) (aT A k).2.1 ((aT A k).2.2.1 n)).2.2.2.2.2 else if o = 1 then nI (gval (cvw (aC A)) (aT A k).2.1 ((aT A k).2.2.1 (n + 1))).2.1 else nI (gval (cvw (aC A)) (aT A k).2.1 ((aT A k).2.2.1 ((aT A k).1 n).2.2.1)).2.1) = r := ⟨_, rfl⟩
        refine ⟨.int r, A, hA, ?_, ?_⟩
        · intro s Q hJ hk
          obtain ⟨T, hT1, w', sc, pr, hT3, hT4⟩ := hJ.2.2.2.1 k hk3
          have hsc := ((hT4 n hn).2.2.2.2 (by omega)).2.2.2
          refine qP.of (L := [_, _, _, _, _, _]) (by omega) (hP _ rfl) ms_Desk_ask rfl ?_
          show qW X PR (d - 1) (some .int) cd_Desk_ask 0 _ _ _ _
          have fin : ∀ s2, qfr 74 110 s s2 → Q (some (.int r)) s2 := fun s2 F => hk s2 (hJ.fr hA F (by omega)) (F.c (by omega) (by omega))
          refine qW.blk rfl ?_
          refine qv_aload rfl ?_
          refine qv_gr ly_8 ⟨rfl, rfl, rfl⟩ (by omega) ?_
          refine qv_iload rfl ?_
          refine qv_virtE (ly_9.rcv _) sg_Chamber_treeAt rfl rfl (r_treeAt_y hP (by omega) hJ.1.2.2.2.1 h12 hk3 hT1) ?_
          refine qv_astore (L' := [_, _, _, _, _, _]) rfl ?_
          refine qv_aload rfl ?_
          refine qv_null_f (nx := 1) rfl ?_
          refine qW.blk rfl ?_
          refine qv_iload rfl ?_
          refine qv_iconst (v := 0) rfl ?_
          refine qv_aload rfl ?_
          refine qv_gh (hT3.o rfl) rfl rfl ?_
          refine qv_iconst (v := 1) rfl ?_
          refine qv_isub ?_
          refine qv_staticE sg_Desk_within rfl (r_Desk_within hP (by omega) (nI (qah (aT A k).1 n)) 0 (nI (aT A k).2.2.2.2.1 - 1) _) ?_
          refine qv_if_eq_f (bI_ne.mpr ((in_nI1 (by omega)).mpr ⟨_, hj, rfl⟩)) (nx := 2) rfl ?_
          refine qW.blk rfl ?_
          refine qv_iload rfl ?_
          refine qv_iconst (v := 0) rfl ?_
          refine qv_iconst (v := 2) rfl ?_
          refine qv_staticE sg_Desk_within rfl (r_Desk_within hP (by omega) (nI o) 0 (nI 2) _) ?_
          refine qv_if_ne_t (bI_ne.mpr (hw)) (tgt := 4) rfl ?_
          rcases (show o = 0 ∨ o = 1 ∨ o = 2 by omega) with rfl | rfl | rfl
          · refine qW.blk rfl ?_
            refine qv_aload rfl ?_
            refine qv_gr ly_8 ⟨rfl, rfl, rfl⟩ (by omega) ?_
            refine qv_aload rfl ?_
            refine qv_gr ly_8 ⟨rfl, rfl, rfl⟩ (by omega) ?_
            refine qv_virt (ly_74.rcv _) sg_Hall_seat rfl rfl (w_Hall_seat hP (by omega) hJ.1 hC (fun s1 p F1 m1 v1 => ?_)) 
            refine qv_aload rfl ?_
            refine qv_gr ly_8 ⟨rfl, rfl, rfl⟩ (by omega) ?_
            refine qv_aload rfl ?_
            refine qv_virt (ly_74.rcv _) sg_Hall_settle rfl rfl (w_settleT hP (by omega) (m1.ok v1) hD (by rw [F1.R]; exact ⟨w', sc, pr, hT3, hT4⟩) (tdE hD) (m1.ve v1) (fun s2 F2 h2 => ?_)) 
            refine qv_pop rfl ?_
            refine qv_aload rfl ?_
            refine qv_iload rfl ?_
            refine qv_virt (hT3.rcv (F2.R.trans F1.R)) sg_Tree_nodeOf rfl rfl (w_nodeOf hP (by omega) hT3 (F2.R.trans F1.R) hK hT4 hn h1 ?_) 
            refine qv_istore (L' := [_, _, _, _, _, _]) rfl ?_
            refine qv_iload rfl ?_
            refine qv_if_neNf rfl (by omega) (by omega) (nx := 5) rfl ?_
            have e2 := ((h2 n hn).2 h1).2
            have b5 : qW X PR (d - 1) (some .int) cd_Desk_ask 5 [some (.ref (8)), some (.int (nI k)), some (.int (nI (qah (aT A k).1 n))), some (.int (nI 0)), some (.ref (T)), some (.int (nI n))] [] s2 Q := by
              refine qW.blk rfl ?_
              refine qv_aload rfl ?_
              refine qv_gr ly_8 ⟨rfl, rfl, rfl⟩ (by omega) ?_
              refine qv_gr ly_74 ⟨rfl, rfl, rfl⟩ (by omega) ?_
              refine qv_iload rfl ?_
              refine qv_ia ly_78 rfl (by omega) (by decide) (e2) ?_
              refine qv_iret (rfl) ?_
              have := fin s2 (F1.trans (F2.mono (lo' := 74) (hi' := 110) (by omega) (by omega)))
              rw [if_pos rfl] at hr
              rw [hr]
              exact this
            exact b5
          · refine qW.blk rfl ?_
            refine qv_aload rfl ?_
            refine qv_gr ly_8 ⟨rfl, rfl, rfl⟩ (by omega) ?_
            refine qv_aload rfl ?_
            refine qv_gr ly_8 ⟨rfl, rfl, rfl⟩ (by omega) ?_
            refine qv_virt (ly_74.rcv _) sg_Hall_seat rfl rfl (w_Hall_seat hP (by omega) hJ.1 hC (fun s1 p F1 m1 v1 => ?_)) 
            refine qv_aload rfl ?_
            refine qv_gr ly_8 ⟨rfl, rfl, rfl⟩ (by omega) ?_
            refine qv_aload rfl ?_
            refine qv_virt (ly_74.rcv _) sg_Hall_settle rfl rfl (w_settleT hP (by omega) (m1.ok v1) hD (by rw [F1.R]; exact ⟨w', sc, pr, hT3, hT4⟩) (tdE hD) (m1.ve v1) (fun s2 F2 h2 => ?_)) 
            refine qv_pop rfl ?_
            refine qv_aload rfl ?_
            refine qv_iload rfl ?_
            refine qv_virt (hT3.rcv (F2.R.trans F1.R)) sg_Tree_nodeOf rfl rfl (w_nodeOf hP (by omega) hT3 (F2.R.trans F1.R) hK hT4 hn h1 ?_) 
            refine qv_istore (L' := [_, _, _, _, _, _]) rfl ?_
            refine qv_iload rfl ?_
            refine qv_if_neNt rfl (by omega) (by omega) (tgt := 6) rfl ?_
            have e2 := (h2 (n + 1) p1).1.2.2.2.1
            have b6 : qW X PR (d - 1) (some .int) cd_Desk_ask 6 [some (.ref (8)), some (.int (nI k)), some (.int (nI (qah (aT A k).1 n))), some (.int (nI 1)), some (.ref (T)), some (.int (nI n))] [] s2 Q := by
              refine qW.blk rfl ?_
              refine qv_aload rfl ?_
              refine qv_gr ly_8 ⟨rfl, rfl, rfl⟩ (by omega) ?_
              refine qv_gr ly_74 ⟨rfl, rfl, rfl⟩ (by omega) ?_
              refine qv_iload rfl ?_
              refine qv_iconst (v := 1) rfl ?_
              refine qv_icmp_neNf (q := 1) rfl rfl (by omega) (by omega) (by omega) (nx := 7) rfl ?_
              refine qW.blk rfl ?_
              refine qv_iload rfl ?_
              refine qv_iconst (v := 1) rfl ?_
              refine qv_iaddN (q := 1) rfl rfl ?_
              refine qv_goto (tgt := 9) rfl ?_
              refine qW.blk rfl ?_
              refine qv_ia ly_77 rfl (by omega) (by decide) (e2) ?_
              refine qv_iret (rfl) ?_
              have := fin s2 (F1.trans (F2.mono (lo' := 74) (hi' := 110) (by omega) (by omega)))
              rw [if_neg (by decide), if_pos rfl] at hr
              rw [hr]
              exact this
            exact b6
          · refine qW.blk rfl ?_
            refine qv_aload rfl ?_
            refine qv_gr ly_8 ⟨rfl, rfl, rfl⟩ (by omega) ?_
            refine qv_aload rfl ?_
            refine qv_gr ly_8 ⟨rfl, rfl, rfl⟩ (by omega) ?_
            refine qv_virt (ly_74.rcv _) sg_Hall_seat rfl rfl (w_Hall_seat hP (by omega) hJ.1 hC (fun s1 p F1 m1 v1 => ?_)) 
            refine qv_aload rfl ?_
            refine qv_gr ly_8 ⟨rfl, rfl, rfl⟩ (by omega) ?_
            refine qv_aload rfl ?_
            refine qv_virt (ly_74.rcv _) sg_Hall_settle rfl rfl (w_settleT hP (by omega) (m1.ok v1) hD (by rw [F1.R]; exact ⟨w', sc, pr, hT3, hT4⟩) (tdE hD) (m1.ve v1) (fun s2 F2 h2 => ?_)) 
            refine qv_pop rfl ?_
            refine qv_aload rfl ?_
            refine qv_iload rfl ?_
            refine qv_virt (hT3.rcv (F2.R.trans F1.R)) sg_Tree_nodeOf rfl rfl (w_nodeOf hP (by omega) hT3 (F2.R.trans F1.R) hK hT4 hn h1 ?_) 
            refine qv_istore (L' := [_, _, _, _, _, _]) rfl ?_
            refine qv_iload rfl ?_
            refine qv_if_neNt rfl (by omega) (by omega) (tgt := 6) rfl ?_
            have e2 := (h2 _ p2).1.2.2.2.1
            have b6 : qW X PR (d - 1) (some .int) cd_Desk_ask 6 [some (.ref (8)), some (.int (nI k)), some (.int (nI (qah (aT A k).1 n))), some (.int (nI 2)), some (.ref (T)), some (.int (nI n))] [] s2 Q := by
              refine qW.blk rfl ?_
              refine qv_aload rfl ?_
              refine qv_gr ly_8 ⟨rfl, rfl, rfl⟩ (by omega) ?_
              refine qv_gr ly_74 ⟨rfl, rfl, rfl⟩ (by omega) ?_
              refine qv_iload rfl ?_
              refine qv_iconst (v := 1) rfl ?_
              refine qv_icmp_neNt (q := 1) rfl rfl (by omega) (by omega) (by omega) (tgt := 8) rfl ?_
              refine qW.blk rfl ?_
              refine qv_aload rfl ?_
              refine qv_gh (hT3.o (F2.R.trans F1.R)) rfl rfl ?_
              refine qv_iload rfl ?_
              refine qv_iah (hT3.a2 (F2.R.trans F1.R)) rfl (by omega) (by omega) (hsc) ?_
              refine qv_nil (nx := 9) rfl ?_
              refine qW.blk rfl ?_
              refine qv_ia ly_77 rfl (by omega) (by decide) (e2) ?_
              refine qv_iret (rfl) ?_
              have := fin s2 (F1.trans (F2.mono (lo' := 74) (hi' := 110) (by omega) (by omega)))
              rw [if_neg (by decide), if_neg (by decide)] at hr
              rw [hr]
              exact this
            exact b6
        · intro s Q hJ hk
          have J1 := hJ.thr (v := 0)
          have rv := rview_neu J1.1 hC J1.2.2.2.2.2
          refine qP.of (L := [_, _, _, _, _]) (by omega) (hP _ rfl) ms_Model_ask rfl ?_
          show qW X PR (d - 1) (some .int) cd_Model_ask 0 _ _ _ _
          rcases (show o = 0 ∨ o = 1 ∨ o = 2 by omega) with rfl | rfl | rfl
          · refine qW.blk rfl ?_
            refine qv_aload rfl ?_
            refine qv_iconst (v := 0) rfl ?_
            refine qv_pi ly_163 ⟨rfl, rfl, rfl⟩ (rfl) ?_
            refine qv_aload rfl ?_
            refine qv_iload rfl ?_
            refine qv_iload rfl ?_
            refine qv_virt (ly_163.rcv _) sg_Model_isQuestion rfl rfl (w_M_isQ_y hP (by omega) (J1.1 3 (by decide)) h12 hk3 (J1.2.2.2.1 k hk3).2 (by omega) hj ?_) 
            refine qv_if_eq_f (by decide) (nx := 1) rfl ?_
            refine qW.blk rfl ?_
            refine qv_iload rfl ?_
            refine qv_iconst (v := 0) rfl ?_
            refine qv_iconst (v := 2) rfl ?_
            refine qv_staticE sg_Model_in rfl (r_Model_in hP (by omega) (nI 0) 0 (nI 2) _) ?_
            refine qv_if_ne_t (bI_ne.mpr (hw)) (tgt := 3) rfl ?_
            refine qW.blk rfl ?_
            refine qv_aload rfl ?_
            refine qv_iload rfl ?_
            refine qv_virt (ly_163.rcv _) sg_Model_endOf rfl rfl (w_M_endOf hP (by omega) rv (by omega) hD (J1.2.2.2.1 k hk3) (fun s1 F1 g1 g2 g3 => ?_)) 
            refine qv_pop rfl ?_
            refine qv_aload rfl ?_
            refine qv_iload rfl ?_
            refine qv_virt (ly_163.rcv _) sg_Model_nodeOf rfl rfl (w_M_nodeOf hP (by omega) hD g1 g2 hn h1 ?_) 
            refine qv_istore (L' := [_, _, _, _, _]) rfl ?_
            refine qv_iload rfl ?_
            refine qv_if_neNf rfl (by omega) (by omega) (nx := 4) rfl ?_
            obtain ⟨v, v1, v2⟩ := g3 _ p3
            have e1 : qE s1 189 ((aT A k).2.2.1 n) = r := by
              rw [show qE s1 189 ((aT A k).2.2.1 n) = v.2.2.2.2.2 from (v2.2 k1).2, v1.2.2.2, ← hr, if_pos rfl]
            refine qW.blk rfl ?_
            refine qv_aload rfl ?_
            refine qv_gr ly_163 ⟨rfl, rfl, rfl⟩ (by omega) ?_
            refine qv_iload rfl ?_
            refine qv_ia ly_189 rfl (by omega) (by decide) (e1) ?_
            refine qv_goto (tgt := 8) rfl ?_
            refine qW.blk rfl ?_
            refine qv_iret (rfl) ?_
            exact hk _ (J1.fr F1.r) (((qfr.rf s).uF (by omega)).trans F1.1)
          · refine qW.blk rfl ?_
            refine qv_aload rfl ?_
            refine qv_iconst (v := 0) rfl ?_
            refine qv_pi ly_163 ⟨rfl, rfl, rfl⟩ (rfl) ?_
            refine qv_aload rfl ?_
            refine qv_iload rfl ?_
            refine qv_iload rfl ?_
            refine qv_virt (ly_163.rcv _) sg_Model_isQuestion rfl rfl (w_M_isQ_y hP (by omega) (J1.1 3 (by decide)) h12 hk3 (J1.2.2.2.1 k hk3).2 (by omega) hj ?_) 
            refine qv_if_eq_f (by decide) (nx := 1) rfl ?_
            refine qW.blk rfl ?_
            refine qv_iload rfl ?_
            refine qv_iconst (v := 0) rfl ?_
            refine qv_iconst (v := 2) rfl ?_
            refine qv_staticE sg_Model_in rfl (r_Model_in hP (by omega) (nI 1) 0 (nI 2) _) ?_
            refine qv_if_ne_t (bI_ne.mpr (hw)) (tgt := 3) rfl ?_
            refine qW.blk rfl ?_
            refine qv_aload rfl ?_
            refine qv_iload rfl ?_
            refine qv_virt (ly_163.rcv _) sg_Model_endOf rfl rfl (w_M_endOf hP (by omega) rv (by omega) hD (J1.2.2.2.1 k hk3) (fun s1 F1 g1 g2 g3 => ?_)) 
            refine qv_pop rfl ?_
            refine qv_aload rfl ?_
            refine qv_iload rfl ?_
            refine qv_virt (ly_163.rcv _) sg_Model_nodeOf rfl rfl (w_M_nodeOf hP (by omega) hD g1 g2 hn h1 ?_) 
            refine qv_istore (L' := [_, _, _, _, _]) rfl ?_
            refine qv_iload rfl ?_
            refine qv_if_neNt rfl (by omega) (by omega) (tgt := 5) rfl ?_
            obtain ⟨v, v1, v2⟩ := g3 _ p4
            have e0 : qE s1 174 ((aT A k).2.2.1 n) = nI ((aT A k).2.2.1 (n + 1)) := by rw [← k2]; exact ((g2 _ p3).2.1 (by omega)).1
            have e1 : qE s1 186 ((aT A k).2.2.1 (n + 1)) = r := by
              rw [show qE s1 186 ((aT A k).2.2.1 (n + 1)) = nI v.2.1 from v2.1.2.2.2.1, v1.2.1, ← hr, if_neg (by decide), if_pos rfl]
            refine qW.blk rfl ?_
            refine qv_iload rfl ?_
            refine qv_iconst (v := 1) rfl ?_
            refine qv_icmp_neNf (q := 1) rfl rfl (by omega) (by omega) (by omega) (nx := 6) rfl ?_
            refine qW.blk rfl ?_
            refine qv_aload rfl ?_
            refine qv_gr ly_163 ⟨rfl, rfl, rfl⟩ (by omega) ?_
            refine qv_aload rfl ?_
            refine qv_gr ly_163 ⟨rfl, rfl, rfl⟩ (by omega) ?_
            refine qv_iload rfl ?_
            refine qv_ia ly_174 rfl (by omega) (by decide) (e0) ?_
            refine qv_ia ly_186 rfl (by omega) (by decide) (e1) ?_
            refine qv_goto (tgt := 8) rfl ?_
            refine qW.blk rfl ?_
            refine qv_iret (rfl) ?_
            exact hk _ (J1.fr F1.r) (((qfr.rf s).uF (by omega)).trans F1.1)
          · refine qW.blk rfl ?_
            refine qv_aload rfl ?_
            refine qv_iconst (v := 0) rfl ?_
            refine qv_pi ly_163 ⟨rfl, rfl, rfl⟩ (rfl) ?_
            refine qv_aload rfl ?_
            refine qv_iload rfl ?_
            refine qv_iload rfl ?_
            refine qv_virt (ly_163.rcv _) sg_Model_isQuestion rfl rfl (w_M_isQ_y hP (by omega) (J1.1 3 (by decide)) h12 hk3 (J1.2.2.2.1 k hk3).2 (by omega) hj ?_) 
            refine qv_if_eq_f (by decide) (nx := 1) rfl ?_
            refine qW.blk rfl ?_
            refine qv_iload rfl ?_
            refine qv_iconst (v := 0) rfl ?_
            refine qv_iconst (v := 2) rfl ?_
            refine qv_staticE sg_Model_in rfl (r_Model_in hP (by omega) (nI 2) 0 (nI 2) _) ?_
            refine qv_if_ne_t (bI_ne.mpr (hw)) (tgt := 3) rfl ?_
            refine qW.blk rfl ?_
            refine qv_aload rfl ?_
            refine qv_iload rfl ?_
            refine qv_virt (ly_163.rcv _) sg_Model_endOf rfl rfl (w_M_endOf hP (by omega) rv (by omega) hD (J1.2.2.2.1 k hk3) (fun s1 F1 g1 g2 g3 => ?_)) 
            refine qv_pop rfl ?_
            refine qv_aload rfl ?_
            refine qv_iload rfl ?_
            refine qv_virt (ly_163.rcv _) sg_Model_nodeOf rfl rfl (w_M_nodeOf hP (by omega) hD g1 g2 hn h1 ?_) 
            refine qv_istore (L' := [_, _, _, _, _]) rfl ?_
            refine qv_iload rfl ?_
            refine qv_if_neNt rfl (by omega) (by omega) (tgt := 5) rfl ?_
            obtain ⟨v, v1, v2⟩ := g3 _ p5
            have e0 : qE s1 175 ((aT A k).2.2.1 n) = nI ((aT A k).2.2.1 ((aT A k).1 n).2.2.1) := by rw [← k3]; exact ((g2 _ p3).2.1 (by omega)).2
            have e1 : qE s1 186 ((aT A k).2.2.1 ((aT A k).1 n).2.2.1) = r := by
              rw [show qE s1 186 ((aT A k).2.2.1 ((aT A k).1 n).2.2.1) = nI v.2.1 from v2.1.2.2.2.1, v1.2.1, ← hr, if_neg (by decide), if_neg (by decide)]
            refine qW.blk rfl ?_
            refine qv_iload rfl ?_
            refine qv_iconst (v := 1) rfl ?_
            refine qv_icmp_neNt (q := 1) rfl rfl (by omega) (by omega) (by omega) (tgt := 7) rfl ?_
            refine qW.blk rfl ?_
            refine qv_aload rfl ?_
            refine qv_gr ly_163 ⟨rfl, rfl, rfl⟩ (by omega) ?_
            refine qv_aload rfl ?_
            refine qv_gr ly_163 ⟨rfl, rfl, rfl⟩ (by omega) ?_
            refine qv_iload rfl ?_
            refine qv_ia ly_175 rfl (by omega) (by decide) (e0) ?_
            refine qv_ia ly_186 rfl (by omega) (by decide) (e1) ?_
            refine qv_nil (nx := 8) rfl ?_
            refine qW.blk rfl ?_
            refine qv_iret (rfl) ?_
            exact hk _ (J1.fr F1.r) (((qfr.rf s).uF (by omega)).trans F1.1)
      · refine ⟨.int (-1), A, hA, ?_, ?_⟩
        · intro s Q hJ hk
          obtain ⟨T, hT1, w', sc, pr, hT3, hT4⟩ := hJ.2.2.2.1 k hk3
          refine qP.of (L := [_, _, _, _, _, _]) (by omega) (hP _ rfl) ms_Desk_ask rfl ?_
          show qW X PR (d - 1) (some .int) cd_Desk_ask 0 _ _ _ _
          refine qW.blk rfl ?_
          refine qv_aload rfl ?_
          refine qv_gr ly_8 ⟨rfl, rfl, rfl⟩ (by omega) ?_
          refine qv_iload rfl ?_
          refine qv_virtE (ly_9.rcv _) sg_Chamber_treeAt rfl rfl (r_treeAt_y hP (by omega) hJ.1.2.2.2.1 h12 hk3 hT1) ?_
          refine qv_astore (L' := [_, _, _, _, _, _]) rfl ?_
          refine qv_aload rfl ?_
          refine qv_null_f (nx := 1) rfl ?_
          refine qW.blk rfl ?_
          refine qv_iload rfl ?_
          refine qv_iconst (v := 0) rfl ?_
          refine qv_aload rfl ?_
          refine qv_gh (hT3.o rfl) rfl rfl ?_
          refine qv_iconst (v := 1) rfl ?_
          refine qv_isub ?_
          refine qv_staticE sg_Desk_within rfl (r_Desk_within hP (by omega) (nI j) 0 (nI (aT A k).2.2.2.2.1 - 1) _) ?_
          refine qv_if_eq_f (bI_ne.mpr ((in_nI1 (by omega)).mpr ⟨_, hj, rfl⟩)) (nx := 2) rfl ?_
          refine qW.blk rfl ?_
          refine qv_iload rfl ?_
          refine qv_iconst (v := 0) rfl ?_
          refine qv_iconst (v := 2) rfl ?_
          refine qv_staticE sg_Desk_within rfl (r_Desk_within hP (by omega) w 0 (nI 2) _) ?_
          refine qv_if_ne_f (fun zq => zq (bI_f (hw))) (nx := 3) rfl ?_
          refine qW.blk rfl ?_
          refine qv_iconst (v := (-1)) rfl ?_
          refine qv_iret (rfl) ?_
          exact hk s hJ (cfr.rf s)
        · intro s Q hJ hk
          have J1 := hJ.thr (v := 0)
          refine qP.of (L := [_, _, _, _, _]) (by omega) (hP _ rfl) ms_Model_ask rfl ?_
          show qW X PR (d - 1) (some .int) cd_Model_ask 0 _ _ _ _
          refine qW.blk rfl ?_
          refine qv_aload rfl ?_
          refine qv_iconst (v := 0) rfl ?_
          refine qv_pi ly_163 ⟨rfl, rfl, rfl⟩ (rfl) ?_
          refine qv_aload rfl ?_
          refine qv_iload rfl ?_
          refine qv_iload rfl ?_
          refine qv_virt (ly_163.rcv _) sg_Model_isQuestion rfl rfl (w_M_isQ_y hP (by omega) (J1.1 3 (by decide)) h12 hk3 (J1.2.2.2.1 k hk3).2 (by omega) hj ?_) 
          refine qv_if_eq_f (by decide) (nx := 1) rfl ?_
          refine qW.blk rfl ?_
          refine qv_iload rfl ?_
          refine qv_iconst (v := 0) rfl ?_
          refine qv_iconst (v := 2) rfl ?_
          refine qv_staticE sg_Model_in rfl (r_Model_in hP (by omega) w 0 (nI 2) _) ?_
          refine qv_if_ne_f (fun zq => zq (bI_f (hw))) (nx := 2) rfl ?_
          refine qW.blk rfl ?_
          refine qv_iconst (v := (-1)) rfl ?_
          refine qv_iret (rfl) ?_
          exact hk (uF s 163 0 0) hJ.thr ((qfr.rf s).uF (by omega))
    · refine ⟨.int (-1), A, hA, ?_, ?_⟩
      · intro s Q hJ hk
        obtain ⟨T, hT1, w', sc, pr, hT3, hT4⟩ := hJ.2.2.2.1 k hk3
        refine qP.of (L := [_, _, _, _, _, _]) (by omega) (hP _ rfl) ms_Desk_ask rfl ?_
        show qW X PR (d - 1) (some .int) cd_Desk_ask 0 _ _ _ _
        refine qW.blk rfl ?_
        refine qv_aload rfl ?_
        refine qv_gr ly_8 ⟨rfl, rfl, rfl⟩ (by omega) ?_
        refine qv_iload rfl ?_
        refine qv_virtE (ly_9.rcv _) sg_Chamber_treeAt rfl rfl (r_treeAt_y hP (by omega) hJ.1.2.2.2.1 h12 hk3 hT1) ?_
        refine qv_astore (L' := [_, _, _, _, _, _]) rfl ?_
        refine qv_aload rfl ?_
        refine qv_null_f (nx := 1) rfl ?_
        refine qW.blk rfl ?_
        refine qv_iload rfl ?_
        refine qv_iconst (v := 0) rfl ?_
        refine qv_aload rfl ?_
        refine qv_gh (hT3.o rfl) rfl rfl ?_
        refine qv_iconst (v := 1) rfl ?_
        refine qv_isub ?_
        refine qv_staticE sg_Desk_within rfl (r_Desk_within hP (by omega) q 0 (nI (aT A k).2.2.2.2.1 - 1) _) ?_
        refine qv_if_eq_t (bI_f (fun z => hnq ((in_nI1 (by omega)).mp z))) (tgt := 3) rfl ?_
        refine qW.blk rfl ?_
        refine qv_iconst (v := (-1)) rfl ?_
        refine qv_iret (rfl) ?_
        exact hk s hJ (cfr.rf s)
      · intro s Q hJ hk
        have J1 := hJ.thr (v := 0)
        refine qP.of (L := [_, _, _, _, _]) (by omega) (hP _ rfl) ms_Model_ask rfl ?_
        show qW X PR (d - 1) (some .int) cd_Model_ask 0 _ _ _ _
        refine qW.blk rfl ?_
        refine qv_aload rfl ?_
        refine qv_iconst (v := 0) rfl ?_
        refine qv_pi ly_163 ⟨rfl, rfl, rfl⟩ (rfl) ?_
        refine qv_aload rfl ?_
        refine qv_iload rfl ?_
        refine qv_iload rfl ?_
        refine qv_virt (ly_163.rcv _) sg_Model_isQuestion rfl rfl (w_M_isQ_n hP (by omega) (J1.1 3 (by decide)) h12 hk3 (J1.2.2.2.1 k hk3).2 (by omega) hnq ?_) 
        refine qv_if_eq_t (rfl) (tgt := 2) rfl ?_
        refine qW.blk rfl ?_
        refine qv_iconst (v := (-1)) rfl ?_
        refine qv_iret (rfl) ?_
        exact hk (uF s 163 0 0) hJ.thr ((qfr.rf s).uF (by omega))
  · refine ⟨.int (-1), A, hA, ?_, ?_⟩
    · intro s Q hJ hk
      refine qP.of (L := [_, _, _, _, _, _]) (by omega) (hP _ rfl) ms_Desk_ask rfl ?_
      show qW X PR (d - 1) (some .int) cd_Desk_ask 0 _ _ _ _
      refine qW.blk rfl ?_
      refine qv_aload rfl ?_
      refine qv_gr ly_8 ⟨rfl, rfl, rfl⟩ (by omega) ?_
      refine qv_iload rfl ?_
      refine qv_virtE (ly_9.rcv _) sg_Chamber_treeAt rfl rfl (r_treeAt_n hP (by omega) hJ.1.2.2.2.1 h12 hn) ?_
      refine qv_astoreN (L' := [_, _, _, _, _, _]) rfl ?_
      refine qv_aloadN rfl ?_
      refine qv_null_t (tgt := 3) rfl ?_
      refine qW.blk rfl ?_
      refine qv_iconst (v := (-1)) rfl ?_
      refine qv_iret (rfl) ?_
      exact hk s hJ (cfr.rf s)
    · intro s Q hJ hk
      have J1 := hJ.thr (v := 0)
      refine qP.of (L := [_, _, _, _, _]) (by omega) (hP _ rfl) ms_Model_ask rfl ?_
      show qW X PR (d - 1) (some .int) cd_Model_ask 0 _ _ _ _
      refine qW.blk rfl ?_
      refine qv_aload rfl ?_
      refine qv_iconst (v := 0) rfl ?_
      refine qv_pi ly_163 ⟨rfl, rfl, rfl⟩ (rfl) ?_
      refine qv_aload rfl ?_
      refine qv_iload rfl ?_
      refine qv_iload rfl ?_
      refine qv_virt (ly_163.rcv _) sg_Model_isQuestion rfl rfl (w_M_isQ_t hP (by omega) (J1.1 3 (by decide)) h12 hn ?_) 
      refine qv_if_eq_t (rfl) (tgt := 2) rfl ?_
      refine qW.blk rfl ?_
      refine qv_iconst (v := (-1)) rfl ?_
      refine qv_iret (rfl) ?_
      exact hk (uF s 163 0 0) hJ.thr ((qfr.rf s).uF (by omega))
theorem r_M_vote (hP : pm_np PR) {d : Nat} (hd : 6 ≤ d) {s : QST} {N : Nat} {W : VW} (hv : rview s N W) {m : Nat} (hm : m < N) {a b : Nat} {vA vB gA gB : NV} {t : TR} (hA : nd_all (fun k => qE s (164 + k)) t a vA) (hB : nd_all (fun k => qE s (164 + k)) t b vB) (eA : nve vA gA) (eB : nve vB gB) : pm_run X pm_Ms PR d 203 [.ref 163, .int (nI m), .int (nI a), .int (nI b)] (qhp s) = some (some (.int (gvt W m gA gB)), qhp s) := by
  have h := r_Model_voteOf (X := X) hP hd (MR_hp s) hv.2.1 hm (hv.2.2 m hm) hA.1 hB.1
  have e : gvt (rvw (qF s 163) (fun k => qE s (164 + k)) N) m vA vB = gvt W m gA gB := by
    refine hv.1.vot hm (hv.u hv.2.2 m hm) ?_ ?_ eA eB
    · exact ⟨hA.1.2.2.1, hA.1.2.2.2.2.1, fun q hq => (hA.1.2.2.2.2.2.1 q hq).2⟩
    · exact ⟨hB.1.2.2.1, hB.1.2.2.2.2.1, fun q hq => (hB.1.2.2.2.2.2.1 q hq).2⟩
  rw [← e]
  exact h
theorem Sim_why (hP : pm_np PR) (t q b : Int32) : Sim X PR 129 214 [.int t, .int q, .int b] := by
  intro d A hd hA
  have hC := hA.1
  have hM := hC.2.2.2.1
  have h12 := hC.2.2.2.2.1
  rcases pl_of t (aC A 3) with ⟨k, hk3, rfl⟩ | hn
  · have hD := hA.2.2.2.1 k hk3
    have hK := hD.2.1
    have hQ := hD.2.2.2.2.2.1
    have hQb := qah_bd (t := (aT A k).1) (aT A k).2.2.2.1
    rcases pl_of q (aT A k).2.2.2.2.1 with ⟨j, hj, rfl⟩ | hnq
    · rcases pl_of b (aC A 2) with ⟨m, hm, rfl⟩ | hnm
      · obtain ⟨n, hn, h1, hq⟩ := qah_find (t := (aT A k).1) (aT A k).2.2.2.1 j (by omega)
        subst hq
        obtain ⟨p1, p2, p3, k1, k2, k3, p4, p5⟩ := iso_q hD hn h1
        refine ⟨.int (gvt (cvw (aC A)) m (gval (cvw (aC A)) (aT A k).2.1 ((aT A k).2.2.1 (n + 1))) (gval (cvw (aC A)) (aT A k).2.1 ((aT A k).2.2.1 ((aT A k).1 n).2.2.1))), A, hA, ?_, ?_⟩
        · intro s Q hJ hk
          obtain ⟨T, hT1, w', sc, pr, hT3, hT4⟩ := hJ.2.2.2.1 k hk3
          have hsc := ((hT4 n hn).2.2.2.2 (by omega)).2.2.2
          refine qP.of (L := [_, _, _, _, _, _]) (by omega) (hP _ rfl) ms_Desk_why rfl ?_
          show qW X PR (d - 1) (some .int) cd_Desk_why 0 _ _ _ _
          refine qW.blk rfl ?_
          refine qv_aload rfl ?_
          refine qv_gr ly_8 ⟨rfl, rfl, rfl⟩ (by omega) ?_
          refine qv_iload rfl ?_
          refine qv_virtE (ly_9.rcv _) sg_Chamber_treeAt rfl rfl (r_treeAt_y hP (by omega) hJ.1.2.2.2.1 h12 hk3 hT1) ?_
          refine qv_astore (L' := [_, _, _, _, _, _]) rfl ?_
          refine qv_aload rfl ?_
          refine qv_null_f (nx := 1) rfl ?_
          refine qW.blk rfl ?_
          refine qv_iload rfl ?_
          refine qv_iconst (v := 0) rfl ?_
          refine qv_aload rfl ?_
          refine qv_gh (hT3.o rfl) rfl rfl ?_
          refine qv_iconst (v := 1) rfl ?_
          refine qv_isub ?_
          refine qv_staticE sg_Desk_within rfl (r_Desk_within hP (by omega) (nI (qah (aT A k).1 n)) 0 (nI (aT A k).2.2.2.2.1 - 1) _) ?_
          refine qv_if_eq_f (bI_ne.mpr ((in_nI1 (by omega)).mpr ⟨_, hj, rfl⟩)) (nx := 2) rfl ?_
          refine qW.blk rfl ?_
          refine qv_aload rfl ?_
          refine qv_gr ly_8 ⟨rfl, rfl, rfl⟩ (by omega) ?_
          refine qv_iload rfl ?_
          refine qv_virtE (ly_9.rcv _) sg_Chamber_memberAt rfl rfl (r_memberAt_y hP (by omega) hJ.1.2.2.1 hM hm) ?_
          refine qv_nonnull_t (tgt := 4) rfl ?_
          refine qW.blk rfl ?_
          refine qv_aload rfl ?_
          refine qv_gr ly_8 ⟨rfl, rfl, rfl⟩ (by omega) ?_
          refine qv_aload rfl ?_
          refine qv_gr ly_8 ⟨rfl, rfl, rfl⟩ (by omega) ?_
          refine qv_virt (ly_74.rcv _) sg_Hall_seat rfl rfl (w_Hall_seat hP (by omega) hJ.1 hC (fun s1 p F1 m1 v1 => ?_)) 
          refine qv_aload rfl ?_
          refine qv_gr ly_8 ⟨rfl, rfl, rfl⟩ (by omega) ?_
          refine qv_aload rfl ?_
          refine qv_virt (ly_74.rcv _) sg_Hall_settle rfl rfl (w_settleT hP (by omega) (m1.ok v1) hD (by rw [F1.R]; exact ⟨w', sc, pr, hT3, hT4⟩) (tdE hD) (m1.ve v1) (fun s2 F2 h2 => ?_)) 
          refine qv_pop rfl ?_
          refine qv_aload rfl ?_
          refine qv_iload rfl ?_
          refine qv_virt (hT3.rcv (F2.R.trans F1.R)) sg_Tree_nodeOf rfl rfl (w_nodeOf hP (by omega) hT3 (F2.R.trans F1.R) hK hT4 hn h1 ?_) 
          refine qv_istore (L' := [_, _, _, _, _, _]) rfl ?_
          refine qv_aload rfl ?_
          refine qv_gr ly_8 ⟨rfl, rfl, rfl⟩ (by omega) ?_
          refine qv_iload rfl ?_
          refine qv_iconst (v := 1) rfl ?_
          refine qv_iaddN (q := 1) rfl rfl ?_
          refine qv_aload rfl ?_
          refine qv_gh (hT3.o (F2.R.trans F1.R)) rfl rfl ?_
          refine qv_iload rfl ?_
          refine qv_iah (hT3.a2 (F2.R.trans F1.R)) rfl (by omega) (by omega) (hsc) ?_
          refine qv_iload rfl ?_
          refine qv_virt (ly_74.rcv _) sg_Hall_voteIn rfl rfl (w_Hall_voteIn hP (by omega) ((m1.ok v1).fr82 F2) (m := m) hm (h2 _ p1).1 (h2 _ p2).1 (fun s3 F3 => ?_)) 
          have F := (F1.trans (F2.mono (lo' := 74) (hi' := 110) (by omega) (by omega))).trans (F3.mono (by omega) (by omega))
          have e : gvt (hvw s2 (gN (cvw (aC A)))) m (gval (cvw (aC A)) (aT A k).2.1 ((aT A k).2.2.1 (n + 1))) (gval (cvw (aC A)) (aT A k).2.1 ((aT A k).2.2.1 ((aT A k).1 n).2.2.1)) = gvt (cvw (aC A)) m (gval (cvw (aC A)) (aT A k).2.1 ((aT A k).2.2.1 (n + 1))) (gval (cvw (aC A)) (aT A k).2.1 ((aT A k).2.2.1 ((aT A k).1 n).2.2.1)) := by
            rw [hvw_cg F2 (by omega) (by omega)]
            have hnd := (ceq_of hD (tdE hD) (m1.ve v1) (m1.ok v1).u).2
            exact (m1.ve v1).vot hm ((m1.ok v1).u m hm) (hnd _ p1) (hnd _ p2) (nve.rf _) (nve.rf _)
          refine qv_top e ?_
          refine qv_iret (rfl) ?_
          exact hk s3 (hJ.fr hA F (by omega)) (F.c (by omega) (by omega))
        · intro s Q hJ hk
          have J1 := hJ.thr (v := 0)
          have rv := rview_neu J1.1 hC J1.2.2.2.2.2
          refine qP.of (L := [_, _, _, _, _]) (by omega) (hP _ rfl) ms_Model_why rfl ?_
          show qW X PR (d - 1) (some .int) cd_Model_why 0 _ _ _ _
          have fin : ∀ s1, efr (uF s 163 0 0) s1 → qF s1 163 15 = nI (aT A k).2.2.2.1 → tr_at (fun j => qE s1 (164 + j)) (aT A k).2.1 (aT A k).2.2.2.1 → (∀ n, n < (aT A k).2.2.2.1 → ∃ v, nve v (gval (cvw (aC A)) (aT A k).2.1 n) ∧ nd_all (fun j => qE s1 (164 + j)) (aT A k).2.1 n v) → qE s1 174 ((aT A k).2.2.1 n) = nI ((aT A k).2.2.1 (n + 1)) ∧ qE s1 175 ((aT A k).2.2.1 n) = nI ((aT A k).2.2.1 ((aT A k).1 n).2.2.1) ∧ ∀ (d : Nat), 6 ≤ d → pm_run X pm_Ms PR d 203 [.ref 163, .int (nI m), .int (nI ((aT A k).2.2.1 (n + 1))), .int (nI ((aT A k).2.2.1 ((aT A k).1 n).2.2.1))] (qhp s1) = some (some (.int (gvt (cvw (aC A)) m (gval (cvw (aC A)) (aT A k).2.1 ((aT A k).2.2.1 (n + 1))) (gval (cvw (aC A)) (aT A k).2.1 ((aT A k).2.2.1 ((aT A k).1 n).2.2.1)))), qhp s1) := by
            intro s1 F1 g1 g2 g3
            have t1 := (g2 _ p3).2.1 (by omega)
            rw [k2, k3] at t1
            refine ⟨t1.1, t1.2, fun d hd => ?_⟩
            obtain ⟨v, v1, v2⟩ := g3 _ p4
            obtain ⟨u, u1, u2⟩ := g3 _ p5
            exact r_M_vote hP hd (rv.e F1) hm v2 u2 v1 u1
          refine qW.blk rfl ?_
          refine qv_aload rfl ?_
          refine qv_iconst (v := 0) rfl ?_
          refine qv_pi ly_163 ⟨rfl, rfl, rfl⟩ (rfl) ?_
          refine qv_aload rfl ?_
          refine qv_iload rfl ?_
          refine qv_iload rfl ?_
          refine qv_virt (ly_163.rcv _) sg_Model_isQuestion rfl rfl (w_M_isQ_y hP (by omega) (J1.1 3 (by decide)) h12 hk3 (J1.2.2.2.1 k hk3).2 (by omega) hj ?_) 
          refine qv_if_eq_f (by decide) (nx := 1) rfl ?_
          refine qW.blk rfl ?_
          refine qv_aload rfl ?_
          refine qv_iload rfl ?_
          refine qv_virtE (ly_163.rcv _) sg_Model_isMember rfl rfl (r_M_isMember hP (by omega) (nI m) (J1.1 2 (by decide))) ?_
          refine qv_if_ne_t (bI_ne.mpr ((in_nI1 (by omega)).mpr ⟨m, hm, rfl⟩)) (tgt := 3) rfl ?_
          refine qW.blk rfl ?_
          refine qv_aload rfl ?_
          refine qv_iload rfl ?_
          refine qv_virt (ly_163.rcv _) sg_Model_endOf rfl rfl (w_M_endOf hP (by omega) rv (by omega) hD (J1.2.2.2.1 k hk3) (fun s1 F1 g1 g2 g3 => ?_)) 
          refine qv_pop rfl ?_
          refine qv_aload rfl ?_
          refine qv_iload rfl ?_
          refine qv_virt (ly_163.rcv _) sg_Model_nodeOf rfl rfl (w_M_nodeOf hP (by omega) hD g1 g2 hn h1 ?_) 
          refine qv_istore (L' := [_, _, _, _, _]) rfl ?_
          refine qv_aload rfl ?_
          refine qv_iload rfl ?_
          refine qv_aload rfl ?_
          refine qv_gr ly_163 ⟨rfl, rfl, rfl⟩ (by omega) ?_
          refine qv_iload rfl ?_
          refine qv_ia ly_174 rfl (by omega) (by decide) ((fin s1 F1 g1 g2 g3).1) ?_
          refine qv_aload rfl ?_
          refine qv_gr ly_163 ⟨rfl, rfl, rfl⟩ (by omega) ?_
          refine qv_iload rfl ?_
          refine qv_ia ly_175 rfl (by omega) (by decide) ((fin s1 F1 g1 g2 g3).2.1) ?_
          refine qv_virtE (ly_163.rcv _) sg_Model_voteOf rfl rfl ((fin s1 F1 g1 g2 g3).2.2 _ (by omega)) ?_
          refine qv_iret (rfl) ?_
          exact hk _ (J1.fr F1.r) (((qfr.rf s).uF (by omega)).trans F1.1)
      · refine ⟨.int (-1000000001), A, hA, ?_, ?_⟩
        · intro s Q hJ hk
          obtain ⟨T, hT1, w', sc, pr, hT3, hT4⟩ := hJ.2.2.2.1 k hk3
          refine qP.of (L := [_, _, _, _, _, _]) (by omega) (hP _ rfl) ms_Desk_why rfl ?_
          show qW X PR (d - 1) (some .int) cd_Desk_why 0 _ _ _ _
          refine qW.blk rfl ?_
          refine qv_aload rfl ?_
          refine qv_gr ly_8 ⟨rfl, rfl, rfl⟩ (by omega) ?_
          refine qv_iload rfl ?_
          refine qv_virtE (ly_9.rcv _) sg_Chamber_treeAt rfl rfl (r_treeAt_y hP (by omega) hJ.1.2.2.2.1 h12 hk3 hT1) ?_
          refine qv_astore (L' := [_, _, _, _, _, _]) rfl ?_
          refine qv_aload rfl ?_
          refine qv_null_f (nx := 1) rfl ?_
          refine qW.blk rfl ?_
          refine qv_iload rfl ?_
          refine qv_iconst (v := 0) rfl ?_
          refine qv_aload rfl ?_
          refine qv_gh (hT3.o rfl) rfl rfl ?_
          refine qv_iconst (v := 1) rfl ?_
          refine qv_isub ?_
          refine qv_staticE sg_Desk_within rfl (r_Desk_within hP (by omega) (nI j) 0 (nI (aT A k).2.2.2.2.1 - 1) _) ?_
          refine qv_if_eq_f (bI_ne.mpr ((in_nI1 (by omega)).mpr ⟨_, hj, rfl⟩)) (nx := 2) rfl ?_
          refine qW.blk rfl ?_
          refine qv_aload rfl ?_
          refine qv_gr ly_8 ⟨rfl, rfl, rfl⟩ (by omega) ?_
          refine qv_iload rfl ?_
          refine qv_virtE (ly_9.rcv _) sg_Chamber_memberAt rfl rfl (r_memberAt_n hP (by omega) hJ.1.2.2.1 hM hnm) ?_
          refine qv_nonnull_f (nx := 3) rfl ?_
          refine qW.blk rfl ?_
          refine qv_iconst (v := (-1000000001)) rfl ?_
          refine qv_iret (rfl) ?_
          exact hk s hJ (cfr.rf s)
        · intro s Q hJ hk
          have J1 := hJ.thr (v := 0)
          refine qP.of (L := [_, _, _, _, _]) (by omega) (hP _ rfl) ms_Model_why rfl ?_
          show qW X PR (d - 1) (some .int) cd_Model_why 0 _ _ _ _
          refine qW.blk rfl ?_
          refine qv_aload rfl ?_
          refine qv_iconst (v := 0) rfl ?_
          refine qv_pi ly_163 ⟨rfl, rfl, rfl⟩ (rfl) ?_
          refine qv_aload rfl ?_
          refine qv_iload rfl ?_
          refine qv_iload rfl ?_
          refine qv_virt (ly_163.rcv _) sg_Model_isQuestion rfl rfl (w_M_isQ_y hP (by omega) (J1.1 3 (by decide)) h12 hk3 (J1.2.2.2.1 k hk3).2 (by omega) hj ?_) 
          refine qv_if_eq_f (by decide) (nx := 1) rfl ?_
          refine qW.blk rfl ?_
          refine qv_aload rfl ?_
          refine qv_iload rfl ?_
          refine qv_virtE (ly_163.rcv _) sg_Model_isMember rfl rfl (r_M_isMember hP (by omega) b (J1.1 2 (by decide))) ?_
          refine qv_if_ne_f (fun zq => zq (bI_f (fun z => hnm ((in_nI1 (by omega)).mp z)))) (nx := 2) rfl ?_
          refine qW.blk rfl ?_
          refine qv_iconst (v := (-1000000001)) rfl ?_
          refine qv_iret (rfl) ?_
          exact hk (uF s 163 0 0) hJ.thr ((qfr.rf s).uF (by omega))
    · refine ⟨.int (-1000000001), A, hA, ?_, ?_⟩
      · intro s Q hJ hk
        obtain ⟨T, hT1, w', sc, pr, hT3, hT4⟩ := hJ.2.2.2.1 k hk3
        refine qP.of (L := [_, _, _, _, _, _]) (by omega) (hP _ rfl) ms_Desk_why rfl ?_
        show qW X PR (d - 1) (some .int) cd_Desk_why 0 _ _ _ _
        refine qW.blk rfl ?_
        refine qv_aload rfl ?_
        refine qv_gr ly_8 ⟨rfl, rfl, rfl⟩ (by omega) ?_
        refine qv_iload rfl ?_
        refine qv_virtE (ly_9.rcv _) sg_Chamber_treeAt rfl rfl (r_treeAt_y hP (by omega) hJ.1.2.2.2.1 h12 hk3 hT1) ?_
        refine qv_astore (L' := [_, _, _, _, _, _]) rfl ?_
        refine qv_aload rfl ?_
        refine qv_null_f (nx := 1) rfl ?_
        refine qW.blk rfl ?_
        refine qv_iload rfl ?_
        refine qv_iconst (v := 0) rfl ?_
        refine qv_aload rfl ?_
        refine qv_gh (hT3.o rfl) rfl rfl ?_
        refine qv_iconst (v := 1) rfl ?_
        refine qv_isub ?_
        refine qv_staticE sg_Desk_within rfl (r_Desk_within hP (by omega) q 0 (nI (aT A k).2.2.2.2.1 - 1) _) ?_
        refine qv_if_eq_t (bI_f (fun z => hnq ((in_nI1 (by omega)).mp z))) (tgt := 3) rfl ?_
        refine qW.blk rfl ?_
        refine qv_iconst (v := (-1000000001)) rfl ?_
        refine qv_iret (rfl) ?_
        exact hk s hJ (cfr.rf s)
      · intro s Q hJ hk
        have J1 := hJ.thr (v := 0)
        refine qP.of (L := [_, _, _, _, _]) (by omega) (hP _ rfl) ms_Model_why rfl ?_
        show qW X PR (d - 1) (some .int) cd_Model_why 0 _ _ _ _
        refine qW.blk rfl ?_
        refine qv_aload rfl ?_
        refine qv_iconst (v := 0) rfl ?_
        refine qv_pi ly_163 ⟨rfl, rfl, rfl⟩ (rfl) ?_
        refine qv_aload rfl ?_
        refine qv_iload rfl ?_
        refine qv_iload rfl ?_
        refine qv_virt (ly_163.rcv _) sg_Model_isQuestion rfl rfl (w_M_isQ_n hP (by omega) (J1.1 3 (by decide)) h12 hk3 (J1.2.2.2.1 k hk3).2 (by omega) hnq ?_) 
        refine qv_if_eq_t (rfl) (tgt := 2) rfl ?_
        refine qW.blk rfl ?_
        refine qv_iconst (v := (-1000000001)) rfl ?_
        refine qv_iret (rfl) ?_
        exact hk (uF s 163 0 0) hJ.thr ((qfr.rf s).uF (by omega))
  · refine ⟨.int (-1000000001), A, hA, ?_, ?_⟩
    · intro s Q hJ hk
      refine qP.of (L := [_, _, _, _, _, _]) (by omega) (hP _ rfl) ms_Desk_why rfl ?_
      show qW X PR (d - 1) (some .int) cd_Desk_why 0 _ _ _ _
      refine qW.blk rfl ?_
      refine qv_aload rfl ?_
      refine qv_gr ly_8 ⟨rfl, rfl, rfl⟩ (by omega) ?_
      refine qv_iload rfl ?_
      refine qv_virtE (ly_9.rcv _) sg_Chamber_treeAt rfl rfl (r_treeAt_n hP (by omega) hJ.1.2.2.2.1 h12 hn) ?_
      refine qv_astoreN (L' := [_, _, _, _, _, _]) rfl ?_
      refine qv_aloadN rfl ?_
      refine qv_null_t (tgt := 3) rfl ?_
      refine qW.blk rfl ?_
      refine qv_iconst (v := (-1000000001)) rfl ?_
      refine qv_iret (rfl) ?_
      exact hk s hJ (cfr.rf s)
    · intro s Q hJ hk
      have J1 := hJ.thr (v := 0)
      refine qP.of (L := [_, _, _, _, _]) (by omega) (hP _ rfl) ms_Model_why rfl ?_
      show qW X PR (d - 1) (some .int) cd_Model_why 0 _ _ _ _
      refine qW.blk rfl ?_
      refine qv_aload rfl ?_
      refine qv_iconst (v := 0) rfl ?_
      refine qv_pi ly_163 ⟨rfl, rfl, rfl⟩ (rfl) ?_
      refine qv_aload rfl ?_
      refine qv_iload rfl ?_
      refine qv_iload rfl ?_
      refine qv_virt (ly_163.rcv _) sg_Model_isQuestion rfl rfl (w_M_isQ_t hP (by omega) (J1.1 3 (by decide)) h12 hn ?_) 
      refine qv_if_eq_t (rfl) (tgt := 2) rfl ?_
      refine qW.blk rfl ?_
      refine qv_iconst (v := (-1000000001)) rfl ?_
      refine qv_iret (rfl) ?_
      exact hk (uF s 163 0 0) hJ.thr ((qfr.rf s).uF (by omega))
end
