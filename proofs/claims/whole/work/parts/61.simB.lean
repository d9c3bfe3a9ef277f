/-! wish, doubted, becomes, member, about, count are alike -/
section
variable {X : pm_X} {PR : pm_P}
theorem Sim_wish (hP : pm_np PR) (a e n : Int32) : Sim X PR 114 171 [.int a, .int e, .int n] := by
  intro d A hd hA
  have hC := hA.1
  have hM := hC.2.2.2.1
  by_cases h0 : (∃ m, m < aC A 2 ∧ a = nI m) ∧ (∃ f, f ≤ 6 ∧ e = nI f) ∧ ∃ j, j ≤ 9 ∧ n = nI j
  · obtain ⟨⟨m, hm, rfl⟩, ⟨f, hf, rfl⟩, j, j2, rfl⟩ := h0
    have hin : nI 0 ≤ nI j ∧ nI j ≤ nI 9 := (w_iff (by omega) (by omega) (by omega)).mpr ⟨by omega, j2⟩
    have hie : nI 0 ≤ nI f ∧ nI f ≤ nI 6 := (w_iff (by omega) (by omega) (by omega)).mpr ⟨by omega, hf⟩
    refine ⟨.int (nI (aC A (60 + 7 * m + f))), (updN (aC A) (60 + 7 * m + f) j, A.2), hA.upd (hC.upd (by omega) (by omega)) (updN_n (by omega)), ?_, ?_⟩
    · intro s Q hJ hk
      have cm := hJ.1.2.2.2.2 m hm
      have inner : ∀ (d : Nat) (Q : QPost), 10 ≤ d → (∀ s', JC s' (updN (aC A) (60 + 7 * m + f) j, A.2) → cfr s s' → Q (some (.int (nI (aC A (60 + 7 * m + f))))) s') → qP X PR d 115 [.ref 8, .int (nI m), .int (nI f), .int (nI j), .int 0] s Q := by
        intro d Q hd hk
        refine qP.of (L := [_, _, _, _, _, _, _, _]) (by omega) (hP _ rfl) ms_Desk_changeWish rfl ?_
        show qW X PR (d - 1) (some .int) cd_Desk_changeWish 0 _ _ _ _
        refine qW.blk rfl ?_
        refine qv_aload rfl ?_
        refine qv_gr ly_8 ⟨rfl, rfl, rfl⟩ (by omega) ?_
        refine qv_iload rfl ?_
        refine qv_virtE (ly_9.rcv _) sg_Chamber_memberAt rfl rfl (r_memberAt_y hP (by omega) hJ.1.2.2.1 hM hm) ?_
        refine qv_astore (L' := [_, _, _, _, _, _, _, _]) rfl ?_
        refine qv_aload rfl ?_
        refine qv_null_f (nx := 1) rfl ?_
        refine qW.blk rfl ?_
        refine qv_iload rfl ?_
        refine qv_staticE sg_Desk_isEnd rfl (r_Desk_isEnd hP (by omega) (nI f) _) ?_
        refine qv_if_eq_f (bI_ne.mpr (hie)) (nx := 2) rfl ?_
        refine qW.blk rfl ?_
        refine qv_iload rfl ?_
        refine qv_iconst (v := 0) rfl ?_
        refine qv_iconst (v := 9) rfl ?_
        refine qv_staticE sg_Desk_within rfl (r_Desk_within hP (by omega) (nI j) (nI 0) (nI 9) _) ?_
        refine qv_if_ne_t (bI_ne.mpr (hin)) (tgt := 4) rfl ?_
        refine qW.blk rfl ?_
        refine qv_iload rfl ?_
        refine qv_if_eq_t (rfl) (tgt := 6) rfl ?_
        refine qW.blk rfl ?_
        refine qv_aload rfl ?_
        refine qv_gr (mb_now (m := m) (by omega)).1 ⟨rfl, rfl, rfl⟩ (by omega) ?_
        refine qv_nil (nx := 7) rfl ?_
        refine qW.blk rfl ?_
        refine qv_astore (L' := [_, _, _, _, _, _, _, _]) rfl ?_
        refine qv_aload rfl ?_
        refine qv_iload rfl ?_
        refine qv_ia (mb_now (m := m) (by omega)).2.1 rfl (by omega) (by decide) ((cm.2.2.2.2.2.2 f (by omega)).1) ?_
        refine qv_istore (L' := [_, _, _, _, _, _, _, _]) rfl ?_
        refine qv_aload rfl ?_
        refine qv_iload rfl ?_
        refine qv_iload rfl ?_
        refine qv_is (mb_now (m := m) (by omega)).2.1 rfl (by omega) (by decide) ?_
        refine qv_iload rfl ?_
        refine qv_iret (rfl) ?_
        exact hk _ (hJ.updm hA ((qfr.rf s).uE (by omega)) rfl hm (by omega) (fun m' h1 h2 => ⟨by omega, by omega, fun e' he => ⟨by omega, by omega⟩⟩) (cm.uW (by omega) (by omega))) (((qfr.rf (lo := 9) (hi := 38) s).uE (by omega)).c (by omega) (by omega))
      refine qP.of (L := [_, _, _, _]) (by omega) (hP _ rfl) ms_Desk_wish rfl ?_
      show qW X PR (d - 1) (some .int) cd_Desk_wish 0 _ _ _ _
      refine qW.blk rfl ?_
      refine qv_aload rfl ?_
      refine qv_iload rfl ?_
      refine qv_iload rfl ?_
      refine qv_iload rfl ?_
      refine qv_iconst (v := 0) rfl ?_
      refine qv_virt (ly_8.rcv _) sg_Desk_changeWish rfl rfl (inner _ _ (by omega) (fun s1 h1 h2 => ?_)) 
      refine qv_iret (rfl) ?_
      exact hk s1 h1 h2
    · intro s Q hJ hk
      refine qP.of (L := [_, _, _, _]) (by omega) (hP _ rfl) ms_Model_wish rfl ?_
      show qW X PR (d - 1) (some .int) cd_Model_wish 0 _ _ _ _
      refine qW.blk rfl ?_
      refine qv_aload rfl ?_
      refine qv_iconst (v := 0) rfl ?_
      refine qv_pi ly_163 ⟨rfl, rfl, rfl⟩ (rfl) ?_
      refine qv_aload rfl ?_
      refine qv_iload rfl ?_
      refine qv_virtE (ly_163.rcv _) sg_Model_isMember rfl rfl (r_M_isMember hP (by omega) (nI m) (hJ.thr.1 2 (by decide))) ?_
      refine qv_if_eq_f (bI_ne.mpr ((in_nI1 (by omega)).mpr ⟨m, hm, rfl⟩)) (nx := 1) rfl ?_
      refine qW.blk rfl ?_
      refine qv_iload rfl ?_
      refine qv_staticE sg_Model_isEnd rfl (r_Model_isEnd hP (by omega) (nI f) _) ?_
      refine qv_if_eq_f (bI_ne.mpr (hie)) (nx := 2) rfl ?_
      refine qW.blk rfl ?_
      refine qv_iload rfl ?_
      refine qv_iconst (v := 0) rfl ?_
      refine qv_iconst (v := 9) rfl ?_
      refine qv_staticE sg_Model_in rfl (r_Model_in hP (by omega) (nI j) (nI 0) (nI 9) _) ?_
      refine qv_if_eq_f (bI_ne.mpr (hin)) (nx := 3) rfl ?_
      refine qW.blk rfl ?_
      refine qv_aload rfl ?_
      refine qv_iconst (v := 60) rfl ?_
      refine qv_iconst (v := 7) rfl ?_
      refine qv_iload rfl ?_
      refine qv_imulN (p := 7) rfl rfl ?_
      refine qv_iaddN (p := 60) rfl rfl ?_
      refine qv_iload rfl ?_
      refine qv_iaddN rfl rfl ?_
      refine qv_iload rfl ?_
      refine qv_virt (ly_163.rcv _) sg_Model_change rfl rfl (w_M_change hP (by omega) (by omega) (hJ.thr.1 (60 + 7 * m + f) (by omega)) ?_) 
      refine qv_goto (tgt := 5) rfl ?_
      refine qW.blk rfl ?_
      refine qv_iret (rfl) ?_
      exact hk _ (hJ.thr.upd (by omega)) (((qfr.rf s).uF (by omega)).uE (by omega))
  · refine ⟨.int (-1), A, hA, ?_, ?_⟩
    · intro s Q hJ hk
      have fin := hk s hJ (cfr.rf s)
      have inner : ∀ (d : Nat) (Q : QPost), 10 ≤ d → Q (some (.int (-1))) s → qP X PR d 115 [.ref 8, .int a, .int e, .int n, .int 0] s Q := by
        intro d Q hd fin
        refine qP.of (L := [_, _, _, _, _, _, _, _]) (by omega) (hP _ rfl) ms_Desk_changeWish rfl ?_
        show qW X PR (d - 1) (some .int) cd_Desk_changeWish 0 _ _ _ _
        rcases pl_of a (aC A 2) with hm | hm
        · obtain ⟨m, hm, rfl⟩ := hm
          by_cases he : 0 ≤ e ∧ e ≤ nI 6
          · have hn : ¬ (0 ≤ n ∧ n ≤ nI 9) := fun z => h0 ⟨⟨m, hm, rfl⟩, (in_nI (n := 6) (by omega)).mp he, (in_nI (n := 9) (by omega)).mp z⟩
            refine qW.blk rfl ?_
            refine qv_aload rfl ?_
            refine qv_gr ly_8 ⟨rfl, rfl, rfl⟩ (by omega) ?_
            refine qv_iload rfl ?_
            refine qv_virtE (ly_9.rcv _) sg_Chamber_memberAt rfl rfl (r_memberAt_y hP (by omega) hJ.1.2.2.1 hM hm) ?_
            refine qv_astore (L' := [_, _, _, _, _, _, _, _]) rfl ?_
            refine qv_aload rfl ?_
            refine qv_null_f (nx := 1) rfl ?_
            refine qW.blk rfl ?_
            refine qv_iload rfl ?_
            refine qv_staticE sg_Desk_isEnd rfl (r_Desk_isEnd hP (by omega) e _) ?_
            refine qv_if_eq_f (bI_ne.mpr (he)) (nx := 2) rfl ?_
            refine qW.blk rfl ?_
            refine qv_iload rfl ?_
            refine qv_iconst (v := 0) rfl ?_
            refine qv_iconst (v := 9) rfl ?_
            refine qv_staticE sg_Desk_within rfl (r_Desk_within hP (by omega) n 0 (nI 9) _) ?_
            refine qv_if_ne_f (fun zq => zq (bI_f (hn))) (nx := 3) rfl ?_
            refine qW.blk rfl ?_
            refine qv_iconst (v := (-1)) rfl ?_
            refine qv_iret (rfl) ?_
            exact fin
          · refine qW.blk rfl ?_
            refine qv_aload rfl ?_
            refine qv_gr ly_8 ⟨rfl, rfl, rfl⟩ (by omega) ?_
            refine qv_iload rfl ?_
            refine qv_virtE (ly_9.rcv _) sg_Chamber_memberAt rfl rfl (r_memberAt_y hP (by omega) hJ.1.2.2.1 hM hm) ?_
            refine qv_astore (L' := [_, _, _, _, _, _, _, _]) rfl ?_
            refine qv_aload rfl ?_
            refine qv_null_f (nx := 1) rfl ?_
            refine qW.blk rfl ?_
            refine qv_iload rfl ?_
            refine qv_staticE sg_Desk_isEnd rfl (r_Desk_isEnd hP (by omega) e _) ?_
            refine qv_if_eq_t (bI_f (he)) (tgt := 3) rfl ?_
            refine qW.blk rfl ?_
            refine qv_iconst (v := (-1)) rfl ?_
            refine qv_iret (rfl) ?_
            exact fin
        · refine qW.blk rfl ?_
          refine qv_aload rfl ?_
          refine qv_gr ly_8 ⟨rfl, rfl, rfl⟩ (by omega) ?_
          refine qv_iload rfl ?_
          refine qv_virtE (ly_9.rcv _) sg_Chamber_memberAt rfl rfl (r_memberAt_n hP (by omega) hJ.1.2.2.1 hM hm) ?_
          refine qv_astoreN (L' := [_, _, _, _, _, _, _, _]) rfl ?_
          refine qv_aloadN rfl ?_
          refine qv_null_t (tgt := 3) rfl ?_
          refine qW.blk rfl ?_
          refine qv_iconst (v := (-1)) rfl ?_
          refine qv_iret (rfl) ?_
          exact fin
      refine qP.of (L := [_, _, _, _]) (by omega) (hP _ rfl) ms_Desk_wish rfl ?_
      show qW X PR (d - 1) (some .int) cd_Desk_wish 0 _ _ _ _
      refine qW.blk rfl ?_
      refine qv_aload rfl ?_
      refine qv_iload rfl ?_
      refine qv_iload rfl ?_
      refine qv_iload rfl ?_
      refine qv_iconst (v := 0) rfl ?_
      refine qv_virt (ly_8.rcv _) sg_Desk_changeWish rfl rfl (inner _ _ (by omega) ?_) 
      refine qv_iret (rfl) ?_
      exact fin
    · intro s Q hJ hk
      have fin := hk (uF s 163 0 0) hJ.thr ((qfr.rf s).uF (by omega))
      refine qP.of (L := [_, _, _, _]) (by omega) (hP _ rfl) ms_Model_wish rfl ?_
      show qW X PR (d - 1) (some .int) cd_Model_wish 0 _ _ _ _
      rcases pl_of a (aC A 2) with hm | hm
      · by_cases he : 0 ≤ e ∧ e ≤ nI 6
        · have hn : ¬ (0 ≤ n ∧ n ≤ nI 9) := fun z => h0 ⟨hm, (in_nI (n := 6) (by omega)).mp he, (in_nI (n := 9) (by omega)).mp z⟩
          refine qW.blk rfl ?_
          refine qv_aload rfl ?_
          refine qv_iconst (v := 0) rfl ?_
          refine qv_pi ly_163 ⟨rfl, rfl, rfl⟩ (rfl) ?_
          refine qv_aload rfl ?_
          refine qv_iload rfl ?_
          refine qv_virtE (ly_163.rcv _) sg_Model_isMember rfl rfl (r_M_isMember hP (by omega) a (hJ.thr.1 2 (by decide))) ?_
          refine qv_if_eq_f (bI_ne.mpr ((in_nI1 (by omega)).mpr hm)) (nx := 1) rfl ?_
          refine qW.blk rfl ?_
          refine qv_iload rfl ?_
          refine qv_staticE sg_Model_isEnd rfl (r_Model_isEnd hP (by omega) e _) ?_
          refine qv_if_eq_f (bI_ne.mpr (he)) (nx := 2) rfl ?_
          refine qW.blk rfl ?_
          refine qv_iload rfl ?_
          refine qv_iconst (v := 0) rfl ?_
          refine qv_iconst (v := 9) rfl ?_
          refine qv_staticE sg_Model_in rfl (r_Model_in hP (by omega) n 0 (nI 9) _) ?_
          refine qv_if_eq_t (bI_f (hn)) (tgt := 4) rfl ?_
          refine qW.blk rfl ?_
          refine qv_iconst (v := (-1)) rfl ?_
          refine qv_nil (nx := 5) rfl ?_
          refine qW.blk rfl ?_
          refine qv_iret (rfl) ?_
          exact fin
        · refine qW.blk rfl ?_
          refine qv_aload rfl ?_
          refine qv_iconst (v := 0) rfl ?_
          refine qv_pi ly_163 ⟨rfl, rfl, rfl⟩ (rfl) ?_
          refine qv_aload rfl ?_
          refine qv_iload rfl ?_
          refine qv_virtE (ly_163.rcv _) sg_Model_isMember rfl rfl (r_M_isMember hP (by omega) a (hJ.thr.1 2 (by decide))) ?_
          refine qv_if_eq_f (bI_ne.mpr ((in_nI1 (by omega)).mpr hm)) (nx := 1) rfl ?_
          refine qW.blk rfl ?_
          refine qv_iload rfl ?_
          refine qv_staticE sg_Model_isEnd rfl (r_Model_isEnd hP (by omega) e _) ?_
          refine qv_if_eq_t (bI_f (he)) (tgt := 4) rfl ?_
          refine qW.blk rfl ?_
          refine qv_iconst (v := (-1)) rfl ?_
          refine qv_nil (nx := 5) rfl ?_
          refine qW.blk rfl ?_
          refine qv_iret (rfl) ?_
          exact fin
      · refine qW.blk rfl ?_
        refine qv_aload rfl ?_
        refine qv_iconst (v := 0) rfl ?_
        refine qv_pi ly_163 ⟨rfl, rfl, rfl⟩ (rfl) ?_
        refine qv_aload rfl ?_
        refine qv_iload rfl ?_
        refine qv_virtE (ly_163.rcv _) sg_Model_isMember rfl rfl (r_M_isMember hP (by omega) a (hJ.thr.1 2 (by decide))) ?_
        refine qv_if_eq_t (bI_f (fun z => hm ((in_nI1 (by omega)).mp z))) (tgt := 4) rfl ?_
        refine qW.blk rfl ?_
        refine qv_iconst (v := (-1)) rfl ?_
        refine qv_nil (nx := 5) rfl ?_
        refine qW.blk rfl ?_
        refine qv_iret (rfl) ?_
        exact fin
theorem Sim_doubted (hP : pm_np PR) (a e n : Int32) : Sim X PR 116 173 [.int a, .int e, .int n] := by
  intro d A hd hA
  have hC := hA.1
  have hM := hC.2.2.2.1
  by_cases h0 : (∃ m, m < aC A 2 ∧ a = nI m) ∧ (∃ f, f ≤ 6 ∧ e = nI f) ∧ ∃ j, j ≤ 9 ∧ n = nI j
  · obtain ⟨⟨m, hm, rfl⟩, ⟨f, hf, rfl⟩, j, j2, rfl⟩ := h0
    have hin : nI 0 ≤ nI j ∧ nI j ≤ nI 9 := (w_iff (by omega) (by omega) (by omega)).mpr ⟨by omega, j2⟩
    have hie : nI 0 ≤ nI f ∧ nI f ≤ nI 6 := (w_iff (by omega) (by omega) (by omega)).mpr ⟨by omega, hf⟩
    refine ⟨.int (nI (aC A (130 + 7 * m + f))), (updN (aC A) (130 + 7 * m + f) j, A.2), hA.upd (hC.upd (by omega) (by omega)) (updN_n (by omega)), ?_, ?_⟩
    · intro s Q hJ hk
      have cm := hJ.1.2.2.2.2 m hm
      have inner : ∀ (d : Nat) (Q : QPost), 10 ≤ d → (∀ s', JC s' (updN (aC A) (130 + 7 * m + f) j, A.2) → cfr s s' → Q (some (.int (nI (aC A (130 + 7 * m + f))))) s') → qP X PR d 115 [.ref 8, .int (nI m), .int (nI f), .int (nI j), .int 1] s Q := by
        intro d Q hd hk
        refine qP.of (L := [_, _, _, _, _, _, _, _]) (by omega) (hP _ rfl) ms_Desk_changeWish rfl ?_
        show qW X PR (d - 1) (some .int) cd_Desk_changeWish 0 _ _ _ _
        refine qW.blk rfl ?_
        refine qv_aload rfl ?_
        refine qv_gr ly_8 ⟨rfl, rfl, rfl⟩ (by omega) ?_
        refine qv_iload rfl ?_
        refine qv_virtE (ly_9.rcv _) sg_Chamber_memberAt rfl rfl (r_memberAt_y hP (by omega) hJ.1.2.2.1 hM hm) ?_
        refine qv_astore (L' := [_, _, _, _, _, _, _, _]) rfl ?_
        refine qv_aload rfl ?_
        refine qv_null_f (nx := 1) rfl ?_
        refine qW.blk rfl ?_
        refine qv_iload rfl ?_
        refine qv_staticE sg_Desk_isEnd rfl (r_Desk_isEnd hP (by omega) (nI f) _) ?_
        refine qv_if_eq_f (bI_ne.mpr (hie)) (nx := 2) rfl ?_
        refine qW.blk rfl ?_
        refine qv_iload rfl ?_
        refine qv_iconst (v := 0) rfl ?_
        refine qv_iconst (v := 9) rfl ?_
        refine qv_staticE sg_Desk_within rfl (r_Desk_within hP (by omega) (nI j) (nI 0) (nI 9) _) ?_
        refine qv_if_ne_t (bI_ne.mpr (hin)) (tgt := 4) rfl ?_
        refine qW.blk rfl ?_
        refine qv_iload rfl ?_
        refine qv_if_eq_f (by decide) (nx := 5) rfl ?_
        refine qW.blk rfl ?_
        refine qv_aload rfl ?_
        refine qv_gr (mb_now (m := m) (by omega)).1 ⟨rfl, rfl, rfl⟩ (by omega) ?_
        refine qv_goto (tgt := 7) rfl ?_
        refine qW.blk rfl ?_
        refine qv_astore (L' := [_, _, _, _, _, _, _, _]) rfl ?_
        refine qv_aload rfl ?_
        refine qv_iload rfl ?_
        refine qv_ia (mb_now (m := m) (by omega)).2.2 rfl (by omega) (by decide) ((cm.2.2.2.2.2.2 f (by omega)).2) ?_
        refine qv_istore (L' := [_, _, _, _, _, _, _, _]) rfl ?_
        refine qv_aload rfl ?_
        refine qv_iload rfl ?_
        refine qv_iload rfl ?_
        refine qv_is (mb_now (m := m) (by omega)).2.2 rfl (by omega) (by decide) ?_
        refine qv_iload rfl ?_
        refine qv_iret (rfl) ?_
        exact hk _ (hJ.updm hA ((qfr.rf s).uE (by omega)) rfl hm (by omega) (fun m' h1 h2 => ⟨by omega, by omega, fun e' he => ⟨by omega, by omega⟩⟩) (cm.uD (by omega) (by omega))) (((qfr.rf (lo := 9) (hi := 38) s).uE (by omega)).c (by omega) (by omega))
      refine qP.of (L := [_, _, _, _]) (by omega) (hP _ rfl) ms_Desk_doubted rfl ?_
      show qW X PR (d - 1) (some .int) cd_Desk_doubted 0 _ _ _ _
      refine qW.blk rfl ?_
      refine qv_aload rfl ?_
      refine qv_iload rfl ?_
      refine qv_iload rfl ?_
      refine qv_iload rfl ?_
      refine qv_iconst (v := 1) rfl ?_
      refine qv_virt (ly_8.rcv _) sg_Desk_changeWish rfl rfl (inner _ _ (by omega) (fun s1 h1 h2 => ?_)) 
      refine qv_iret (rfl) ?_
      exact hk s1 h1 h2
    · intro s Q hJ hk
      refine qP.of (L := [_, _, _, _]) (by omega) (hP _ rfl) ms_Model_doubted rfl ?_
      show qW X PR (d - 1) (some .int) cd_Model_doubted 0 _ _ _ _
      refine qW.blk rfl ?_
      refine qv_aload rfl ?_
      refine qv_iconst (v := 0) rfl ?_
      refine qv_pi ly_163 ⟨rfl, rfl, rfl⟩ (rfl) ?_
      refine qv_aload rfl ?_
      refine qv_iload rfl ?_
      refine qv_virtE (ly_163.rcv _) sg_Model_isMember rfl rfl (r_M_isMember hP (by omega) (nI m) (hJ.thr.1 2 (by decide))) ?_
      refine qv_if_eq_f (bI_ne.mpr ((in_nI1 (by omega)).mpr ⟨m, hm, rfl⟩)) (nx := 1) rfl ?_
      refine qW.blk rfl ?_
      refine qv_iload rfl ?_
      refine qv_staticE sg_Model_isEnd rfl (r_Model_isEnd hP (by omega) (nI f) _) ?_
      refine qv_if_eq_f (bI_ne.mpr (hie)) (nx := 2) rfl ?_
      refine qW.blk rfl ?_
      refine qv_iload rfl ?_
      refine qv_iconst (v := 0) rfl ?_
      refine qv_iconst (v := 9) rfl ?_
      refine qv_staticE sg_Model_in rfl (r_Model_in hP (by omega) (nI j) (nI 0) (nI 9) _) ?_
      refine qv_if_eq_f (bI_ne.mpr (hin)) (nx := 3) rfl ?_
      refine qW.blk rfl ?_
      refine qv_aload rfl ?_
      refine qv_iconst (v := 130) rfl ?_
      refine qv_iconst (v := 7) rfl ?_
      refine qv_iload rfl ?_
      refine qv_imulN (p := 7) rfl rfl ?_
      refine qv_iaddN (p := 130) rfl rfl ?_
      refine qv_iload rfl ?_
      refine qv_iaddN rfl rfl ?_
      refine qv_iload rfl ?_
      refine qv_virt (ly_163.rcv _) sg_Model_change rfl rfl (w_M_change hP (by omega) (by omega) (hJ.thr.1 (130 + 7 * m + f) (by omega)) ?_) 
      refine qv_goto (tgt := 5) rfl ?_
      refine qW.blk rfl ?_
      refine qv_iret (rfl) ?_
      exact hk _ (hJ.thr.upd (by omega)) (((qfr.rf s).uF (by omega)).uE (by omega))
  · refine ⟨.int (-1), A, hA, ?_, ?_⟩
    · intro s Q hJ hk
      have fin := hk s hJ (cfr.rf s)
      have inner : ∀ (d : Nat) (Q : QPost), 10 ≤ d → Q (some (.int (-1))) s → qP X PR d 115 [.ref 8, .int a, .int e, .int n, .int 1] s Q := by
        intro d Q hd fin
        refine qP.of (L := [_, _, _, _, _, _, _, _]) (by omega) (hP _ rfl) ms_Desk_changeWish rfl ?_
        show qW X PR (d - 1) (some .int) cd_Desk_changeWish 0 _ _ _ _
        rcases pl_of a (aC A 2) with hm | hm
        · obtain ⟨m, hm, rfl⟩ := hm
          by_cases he : 0 ≤ e ∧ e ≤ nI 6
          · have hn : ¬ (0 ≤ n ∧ n ≤ nI 9) := fun z => h0 ⟨⟨m, hm, rfl⟩, (in_nI (n := 6) (by omega)).mp he, (in_nI (n := 9) (by omega)).mp z⟩
            refine qW.blk rfl ?_
            refine qv_aload rfl ?_
            refine qv_gr ly_8 ⟨rfl, rfl, rfl⟩ (by omega) ?_
            refine qv_iload rfl ?_
            refine qv_virtE (ly_9.rcv _) sg_Chamber_memberAt rfl rfl (r_memberAt_y hP (by omega) hJ.1.2.2.1 hM hm) ?_
            refine qv_astore (L' := [_, _, _, _, _, _, _, _]) rfl ?_
            refine qv_aload rfl ?_
            refine qv_null_f (nx := 1) rfl ?_
            refine qW.blk rfl ?_
            refine qv_iload rfl ?_
            refine qv_staticE sg_Desk_isEnd rfl (r_Desk_isEnd hP (by omega) e _) ?_
            refine qv_if_eq_f (bI_ne.mpr (he)) (nx := 2) rfl ?_
            refine qW.blk rfl ?_
            refine qv_iload rfl ?_
            refine qv_iconst (v := 0) rfl ?_
            refine qv_iconst (v := 9) rfl ?_
            refine qv_staticE sg_Desk_within rfl (r_Desk_within hP (by omega) n 0 (nI 9) _) ?_
            refine qv_if_ne_f (fun zq => zq (bI_f (hn))) (nx := 3) rfl ?_
            refine qW.blk rfl ?_
            refine qv_iconst (v := (-1)) rfl ?_
            refine qv_iret (rfl) ?_
            exact fin
          · refine qW.blk rfl ?_
            refine qv_aload rfl ?_
            refine qv_gr ly_8 ⟨rfl, rfl, rfl⟩ (by omega) ?_
            refine qv_iload rfl ?_
            refine qv_virtE (ly_9.rcv _) sg_Chamber_memberAt rfl rfl (r_memberAt_y hP (by omega) hJ.1.2.2.1 hM hm) ?_
            refine qv_astore (L' := [_, _, _, _, _, _, _, _]) rfl ?_
            refine qv_aload rfl ?_
            refine qv_null_f (nx := 1) rfl ?_
            refine qW.blk rfl ?_
            refine qv_iload rfl ?_
            refine qv_staticE sg_Desk_isEnd rfl (r_Desk_isEnd hP (by omega) e _) ?_
            refine qv_if_eq_t (bI_f (he)) (tgt := 3) rfl ?_
            refine qW.blk rfl ?_
            refine qv_iconst (v := (-1)) rfl ?_
            refine qv_iret (rfl) ?_
            exact fin
        · refine qW.blk rfl ?_
          refine qv_aload rfl ?_
          refine qv_gr ly_8 ⟨rfl, rfl, rfl⟩ (by omega) ?_
          refine qv_iload rfl ?_
          refine qv_virtE (ly_9.rcv _) sg_Chamber_memberAt rfl rfl (r_memberAt_n hP (by omega) hJ.1.2.2.1 hM hm) ?_
          refine qv_astoreN (L' := [_, _, _, _, _, _, _, _]) rfl ?_
          refine qv_aloadN rfl ?_
          refine qv_null_t (tgt := 3) rfl ?_
          refine qW.blk rfl ?_
          refine qv_iconst (v := (-1)) rfl ?_
          refine qv_iret (rfl) ?_
          exact fin
      refine qP.of (L := [_, _, _, _]) (by omega) (hP _ rfl) ms_Desk_doubted rfl ?_
      show qW X PR (d - 1) (some .int) cd_Desk_doubted 0 _ _ _ _
      refine qW.blk rfl ?_
      refine qv_aload rfl ?_
      refine qv_iload rfl ?_
      refine qv_iload rfl ?_
      refine qv_iload rfl ?_
      refine qv_iconst (v := 1) rfl ?_
      refine qv_virt (ly_8.rcv _) sg_Desk_changeWish rfl rfl (inner _ _ (by omega) ?_) 
      refine qv_iret (rfl) ?_
      exact fin
    · intro s Q hJ hk
      have fin := hk (uF s 163 0 0) hJ.thr ((qfr.rf s).uF (by omega))
      refine qP.of (L := [_, _, _, _]) (by omega) (hP _ rfl) ms_Model_doubted rfl ?_
      show qW X PR (d - 1) (some .int) cd_Model_doubted 0 _ _ _ _
      rcases pl_of a (aC A 2) with hm | hm
      · by_cases he : 0 ≤ e ∧ e ≤ nI 6
        · have hn : ¬ (0 ≤ n ∧ n ≤ nI 9) := fun z => h0 ⟨hm, (in_nI (n := 6) (by omega)).mp he, (in_nI (n := 9) (by omega)).mp z⟩
          refine qW.blk rfl ?_
          refine qv_aload rfl ?_
          refine qv_iconst (v := 0) rfl ?_
          refine qv_pi ly_163 ⟨rfl, rfl, rfl⟩ (rfl) ?_
          refine qv_aload rfl ?_
          refine qv_iload rfl ?_
          refine qv_virtE (ly_163.rcv _) sg_Model_isMember rfl rfl (r_M_isMember hP (by omega) a (hJ.thr.1 2 (by decide))) ?_
          refine qv_if_eq_f (bI_ne.mpr ((in_nI1 (by omega)).mpr hm)) (nx := 1) rfl ?_
          refine qW.blk rfl ?_
          refine qv_iload rfl ?_
          refine qv_staticE sg_Model_isEnd rfl (r_Model_isEnd hP (by omega) e _) ?_
          refine qv_if_eq_f (bI_ne.mpr (he)) (nx := 2) rfl ?_
          refine qW.blk rfl ?_
          refine qv_iload rfl ?_
          refine qv_iconst (v := 0) rfl ?_
          refine qv_iconst (v := 9) rfl ?_
          refine qv_staticE sg_Model_in rfl (r_Model_in hP (by omega) n 0 (nI 9) _) ?_
          refine qv_if_eq_t (bI_f (hn)) (tgt := 4) rfl ?_
          refine qW.blk rfl ?_
          refine qv_iconst (v := (-1)) rfl ?_
          refine qv_nil (nx := 5) rfl ?_
          refine qW.blk rfl ?_
          refine qv_iret (rfl) ?_
          exact fin
        · refine qW.blk rfl ?_
          refine qv_aload rfl ?_
          refine qv_iconst (v := 0) rfl ?_
          refine qv_pi ly_163 ⟨rfl, rfl, rfl⟩ (rfl) ?_
          refine qv_aload rfl ?_
          refine qv_iload rfl ?_
          refine qv_virtE (ly_163.rcv _) sg_Model_isMember rfl rfl (r_M_isMember hP (by omega) a (hJ.thr.1 2 (by decide))) ?_
          refine qv_if_eq_f (bI_ne.mpr ((in_nI1 (by omega)).mpr hm)) (nx := 1) rfl ?_
          refine qW.blk rfl ?_
          refine qv_iload rfl ?_
          refine qv_staticE sg_Model_isEnd rfl (r_Model_isEnd hP (by omega) e _) ?_
          refine qv_if_eq_t (bI_f (he)) (tgt := 4) rfl ?_
          refine qW.blk rfl ?_
          refine qv_iconst (v := (-1)) rfl ?_
          refine qv_nil (nx := 5) rfl ?_
          refine qW.blk rfl ?_
          refine qv_iret (rfl) ?_
          exact fin
      · refine qW.blk rfl ?_
        refine qv_aload rfl ?_
        refine qv_iconst (v := 0) rfl ?_
        refine qv_pi ly_163 ⟨rfl, rfl, rfl⟩ (rfl) ?_
        refine qv_aload rfl ?_
        refine qv_iload rfl ?_
        refine qv_virtE (ly_163.rcv _) sg_Model_isMember rfl rfl (r_M_isMember hP (by omega) a (hJ.thr.1 2 (by decide))) ?_
        refine qv_if_eq_t (bI_f (fun z => hm ((in_nI1 (by omega)).mp z))) (tgt := 4) rfl ?_
        refine qW.blk rfl ?_
        refine qv_iconst (v := (-1)) rfl ?_
        refine qv_nil (nx := 5) rfl ?_
        refine qW.blk rfl ?_
        refine qv_iret (rfl) ?_
        exact fin
/-- the reference's most NUMBER -/
theorem w_M_isNumber (hP : pm_np PR) {d : Nat} (hd : 2 ≤ d) {s : QST} {Q : QPost} {k : Nat} (hk5 : k ≤ 5) (v : Int32) (hk : Q (some (.int (bI (0 ≤ v ∧ v ≤ nI (mostN k))))) s) : qP X PR d 166 [.int (nI k), .int v] s Q := by
  refine qP.of (L := [_, _]) (by omega) (hP _ rfl) ms_Model_isNumber rfl ?_
  show qW X PR (d - 1) (some .boolean) cd_Model_isNumber 0 _ _ _ _
  have fin : ∀ c : Int32, c = nI (mostN k) → qW X PR (d - 1) (some .boolean) cd_Model_isNumber 6 [some (.int (nI k)), some (.int (v))] [.int (c), .int 0, .int (v)] s Q := by
    intro c hc
    subst hc
    refine qW.blk rfl ?_
    refine qv_staticE sg_Model_in rfl (r_Model_in hP (by omega) v 0 (nI (mostN k)) _) ?_
    refine qv_iret (bI_ret) ?_
    exact hk
  by_cases h2 : k = 2
  · refine qW.blk rfl ?_
    refine qv_iload rfl ?_
    refine qv_iconst (v := 0) rfl ?_
    refine qv_iload rfl ?_
    refine qv_iconst (v := 2) rfl ?_
    refine qv_icmp_neNf (q := 2) rfl rfl (by omega) (by omega) (by omega) (nx := 1) rfl ?_
    refine qW.blk rfl ?_
    refine qv_iconst (v := 5) rfl ?_
    refine qv_goto (tgt := 6) rfl ?_
    exact fin 5 (by unfold mostN; rw [if_pos h2]; rfl)
  by_cases h3 : k = 3
  · refine qW.blk rfl ?_
    refine qv_iload rfl ?_
    refine qv_iconst (v := 0) rfl ?_
    refine qv_iload rfl ?_
    refine qv_iconst (v := 2) rfl ?_
    refine qv_icmp_neNt (q := 2) rfl rfl (by omega) (by omega) (by omega) (tgt := 2) rfl ?_
    refine qW.blk rfl ?_
    refine qv_iload rfl ?_
    refine qv_iconst (v := 3) rfl ?_
    refine qv_icmp_eqNt (q := 3) rfl rfl (by omega) (by omega) (by omega) (tgt := 4) rfl ?_
    refine qW.blk rfl ?_
    refine qv_iconst (v := 2) rfl ?_
    refine qv_goto (tgt := 6) rfl ?_
    exact fin 2 (by unfold mostN; rw [if_neg h2, if_pos (Or.inl h3)]; rfl)
  by_cases h4 : k = 4
  · refine qW.blk rfl ?_
    refine qv_iload rfl ?_
    refine qv_iconst (v := 0) rfl ?_
    refine qv_iload rfl ?_
    refine qv_iconst (v := 2) rfl ?_
    refine qv_icmp_neNt (q := 2) rfl rfl (by omega) (by omega) (by omega) (tgt := 2) rfl ?_
    refine qW.blk rfl ?_
    refine qv_iload rfl ?_
    refine qv_iconst (v := 3) rfl ?_
    refine qv_icmp_eqNf (q := 3) rfl rfl (by omega) (by omega) (by omega) (nx := 3) rfl ?_
    refine qW.blk rfl ?_
    refine qv_iload rfl ?_
    refine qv_iconst (v := 4) rfl ?_
    refine qv_icmp_neNf (q := 4) rfl rfl (by omega) (by omega) (by omega) (nx := 4) rfl ?_
    refine qW.blk rfl ?_
    refine qv_iconst (v := 2) rfl ?_
    refine qv_goto (tgt := 6) rfl ?_
    exact fin 2 (by unfold mostN; rw [if_neg h2, if_pos (Or.inr h4)]; rfl)
  · refine qW.blk rfl ?_
    refine qv_iload rfl ?_
    refine qv_iconst (v := 0) rfl ?_
    refine qv_iload rfl ?_
    refine qv_iconst (v := 2) rfl ?_
    refine qv_icmp_neNt (q := 2) rfl rfl (by omega) (by omega) (by omega) (tgt := 2) rfl ?_
    refine qW.blk rfl ?_
    refine qv_iload rfl ?_
    refine qv_iconst (v := 3) rfl ?_
    refine qv_icmp_eqNf (q := 3) rfl rfl (by omega) (by omega) (by omega) (nx := 3) rfl ?_
    refine qW.blk rfl ?_
    refine qv_iload rfl ?_
    refine qv_iconst (v := 4) rfl ?_
    refine qv_icmp_neNt (q := 4) rfl rfl (by omega) (by omega) (by omega) (tgt := 5) rfl ?_
    refine qW.blk rfl ?_
    refine qv_iconst (v := 0) rfl ?_
    refine qv_nil (nx := 6) rfl ?_
    exact fin 0 (by unfold mostN; rw [if_neg h2, if_neg (by omega)]; rfl)
theorem mostN_le {k : Nat} : mostN k ≤ 5 := by unfold mostN; split <;> (try split) <;> omega
theorem fit_iff {k n : Nat} (hk : k < 2 ^ 31) (hn : n < 2 ^ 31) : (k ≤ 5 ∧ n ≤ mostN k) ↔ ∃ j, (j ≤ 5 ∧ nI k = nI j) ∧ ∃ n', n' ≤ mostN j ∧ nI n = nI n' := by
  constructor
  · rintro ⟨h1, h2⟩; exact ⟨k, ⟨h1, rfl⟩, n, h2, rfl⟩
  · rintro ⟨j, ⟨h1, h2⟩, n', h3, h4⟩
    have e1 := (nI_eq hk (by omega)).mp h2
    have e2 := (nI_eq hn (by have := mostN_le (k := j); omega)).mp h4
    subst e1; subst e2
    exact ⟨h1, h3⟩
theorem Sim_becomes (hP : pm_np PR) (hX1 : X 1 = some (6, pm_tbf [0, 0, 5, 2, 2, 0])) (a t : Int32) : Sim X PR 113 170 [.int a, .int t] := by
  intro d A hd hA
  have hC := hA.1
  have hM := hC.2.2.2.1
  by_cases h0 : (∃ m, m < aC A 2 ∧ a = nI m) ∧ ∃ j, j < 2 ^ 31 ∧ t = nI j ∧ j / 10 ≤ 5 ∧ j % 10 ≤ mostN (j / 10)
  · obtain ⟨⟨m, hm, rfl⟩, j, j1, rfl, j2, j3⟩ := h0
    have hfit : j / 10 ≤ 5 ∧ j % 10 ≤ mostN (j / 10) := ⟨j2, j3⟩
    obtain ⟨c1, c2, c3, c4, c5, c6⟩ := hC
    have g : ∀ k, k ≠ 10 + m → k ≠ 30 + m → updN (updN (aC A) (10 + m) (j / 10)) (30 + m) (j % 10) k = aC A k := fun k h1 h2 => by rw [updN_n h2, updN_n h1]
    have g1 : updN (updN (aC A) (10 + m) (j / 10)) (30 + m) (j % 10) (10 + m) = j / 10 := by rw [updN_n (by omega), updN_s]
    have g3 : updN (updN (aC A) (10 + m) (j / 10)) (30 + m) (j % 10) (30 + m) = j % 10 := updN_s
    have hC' : CB (updN (updN (aC A) (10 + m) (j / 10)) (30 + m) (j % 10)) := by
      refine ⟨by rw [g _ (by omega) (by omega)]; exact c1, by rw [g _ (by omega) (by omega)]; exact c2, by rw [g _ (by omega) (by omega)]; exact c3, by rw [g _ (by omega) (by omega)]; exact c4, by rw [g _ (by omega) (by omega)]; exact c5, fun m' hm' => ?_⟩
      rw [g _ (by omega) (by omega)] at hm'
      obtain ⟨d1, d2, d3, d4, d5, d6, d7⟩ := c6 m' hm'
      rw [g (20 + m') (by omega) (by omega), g (40 + m') (by omega) (by omega), g (50 + m') (by omega) (by omega)]
      have rest : ∀ e, e < 7 → updN (updN (aC A) (10 + m) (j / 10)) (30 + m) (j % 10) (60 + 7 * m' + e) ≤ 9 ∧ updN (updN (aC A) (10 + m) (j / 10)) (30 + m) (j % 10) (130 + 7 * m' + e) ≤ 9 := fun e he => by rw [g _ (by omega) (by omega), g _ (by omega) (by omega)]; exact d7 e he
      by_cases e : m' = m
      · subst e
        rw [g1, g3]
        exact ⟨j2, d2, d3, j3, d5, d6, rest⟩
      · rw [g (10 + m') (by omega) (by omega), g (30 + m') (by omega) (by omega)]
        exact ⟨d1, d2, d3, d4, d5, d6, rest⟩
    refine ⟨.int (nI (aC A (10 + m))), (updN (updN (aC A) (10 + m) (j / 10)) (30 + m) (j % 10), A.2), hA.upd hC' (g 3 (by omega) (by omega)), ?_, ?_⟩
    · intro s Q hJ hk
      have cm := hJ.1.2.2.2.2 m hm
      refine qP.of (L := [_, _, _, _, _]) (by omega) (hP _ rfl) ms_Desk_becomes rfl ?_
      show qW X PR (d - 1) (some .int) cd_Desk_becomes 0 _ _ _ _
      refine qW.blk rfl ?_
      refine qv_aload rfl ?_
      refine qv_gr ly_8 ⟨rfl, rfl, rfl⟩ (by omega) ?_
      refine qv_iload rfl ?_
      refine qv_virtE (ly_9.rcv _) sg_Chamber_memberAt rfl rfl (r_memberAt_y hP (by omega) hJ.1.2.2.1 hM hm) ?_
      refine qv_astore (L' := [_, _, _, _, _]) rfl ?_
      refine qv_aload rfl ?_
      refine qv_null_f (nx := 1) rfl ?_
      refine qW.blk rfl ?_
      refine qv_iload rfl ?_
      refine qv_if_ltNf rfl (by omega) (by omega) (nx := 2) rfl ?_
      refine qW.blk rfl ?_
      refine qv_iload rfl ?_
      refine qv_iconst (v := 10) rfl ?_
      refine qv_idivN (q := 10) rfl rfl (by omega) (by omega) (by omega) ?_
      refine qv_iload rfl ?_
      refine qv_iconst (v := 10) rfl ?_
      refine qv_iremN (q := 10) rfl rfl (by omega) (by omega) (by omega) ?_
      refine qv_staticE sg_Desk_fits rfl (r_Desk_fits hP hX1 (by omega) (nI (j / 10)) (nI (j % 10)) (fit_iff (by omega) (by omega))) ?_
      refine qv_if_ne_t (bI_ne.mpr (hfit)) (tgt := 4) rfl ?_
      refine qW.blk rfl ?_
      refine qv_aload rfl ?_
      refine qv_gi (mb_now (m := m) (by omega)).1 ⟨rfl, rfl, rfl⟩ (cm.2.1) ?_
      refine qv_istore (L' := [_, _, _, _, _]) rfl ?_
      refine qv_aload rfl ?_
      refine qv_iload rfl ?_
      refine qv_iconst (v := 10) rfl ?_
      refine qv_idivN (q := 10) rfl rfl (by omega) (by omega) (by omega) ?_
      refine qv_pi (mb_now (m := m) (by omega)).1 ⟨rfl, rfl, rfl⟩ (rfl) ?_
      refine qv_aload rfl ?_
      refine qv_iload rfl ?_
      refine qv_iconst (v := 10) rfl ?_
      refine qv_iremN (q := 10) rfl rfl (by omega) (by omega) (by omega) ?_
      refine qv_pi (mb_now (m := m) (by omega)).1 ⟨rfl, rfl, rfl⟩ (rfl) ?_
      refine qv_iload rfl ?_
      refine qv_iret (rfl) ?_
      have F : qfr (12 + 3 * m) (12 + 3 * m + 2) s (uF (uF s (12 + 3 * m) 1 (nI (j / 10))) (12 + 3 * m) 3 (nI (j % 10))) := ((qfr.rf s).uF (by omega)).uF (by omega)
      have hcm : cM (uF (uF s (12 + 3 * m) 1 (nI (j / 10))) (12 + 3 * m) 3 (nI (j % 10))) (12 + 3 * m) m (updN (updN (aC A) (10 + m) (j / 10)) (30 + m) (j % 10)) := by
        obtain ⟨m0, m1, m2, m3, m4, m5, m6⟩ := cm
        refine ⟨?_, ?_, ?_, ?_, ?_, ?_, fun e he => ?_⟩
        · rw [qF_uFk (by omega), qF_uFk (by omega)]; exact m0
        · rw [qF_uFk (by omega), qF_uFs, g1]
        · rw [qF_uFk (by omega), qF_uFk (by omega), g _ (by omega) (by omega)]; exact m2
        · rw [qF_uFs, g3]
        · rw [qF_uFk (by omega), qF_uFk (by omega), g _ (by omega) (by omega)]; exact m4
        · rw [qF_uFk (by omega), qF_uFk (by omega), g _ (by omega) (by omega)]; exact m5
        · rw [g _ (by omega) (by omega), g _ (by omega) (by omega)]; exact m6 e he
      exact hk _ ⟨hJ.1.mem F hm hM (fun k hk => g k (by omega) (by omega)) (fun m' h1 h2 => ⟨fun k hk => g _ (by omega) (by omega), fun e he => ⟨g _ (by omega) (by omega), g _ (by omega) (by omega)⟩⟩) hcm, hJ.2.fr hA F (Or.inl ⟨by omega, by omega, rfl⟩) rfl rfl (g 3 (by omega) (by omega)) rfl rfl⟩ ((F.mono (lo' := 9) (hi' := 38) (by omega) (by omega)).c (by omega) (by omega))
    · intro s Q hJ hk
      refine qP.of (L := [_, _, _, _]) (by omega) (hP _ rfl) ms_Model_becomes rfl ?_
      show qW X PR (d - 1) (some .int) cd_Model_becomes 0 _ _ _ _
      refine qW.blk rfl ?_
      refine qv_aload rfl ?_
      refine qv_iconst (v := 0) rfl ?_
      refine qv_pi ly_163 ⟨rfl, rfl, rfl⟩ (rfl) ?_
      refine qv_aload rfl ?_
      refine qv_iload rfl ?_
      refine qv_virtE (ly_163.rcv _) sg_Model_isMember rfl rfl (r_M_isMember hP (by omega) (nI m) (hJ.thr.1 2 (by decide))) ?_
      refine qv_if_eq_f (bI_ne.mpr ((in_nI1 (by omega)).mpr ⟨m, hm, rfl⟩)) (nx := 1) rfl ?_
      refine qW.blk rfl ?_
      refine qv_iload rfl ?_
      refine qv_if_ltNf rfl (by omega) (by omega) (nx := 2) rfl ?_
      refine qW.blk rfl ?_
      refine qv_iload rfl ?_
      refine qv_iconst (v := 10) rfl ?_
      refine qv_idivN (q := 10) rfl rfl (by omega) (by omega) (by omega) ?_
      refine qv_iconst (v := 0) rfl ?_
      refine qv_iconst (v := 5) rfl ?_
      refine qv_staticE sg_Model_in rfl (r_Model_in hP (by omega) (nI (j / 10)) (nI 0) (nI 5) _) ?_
      refine qv_if_eq_f (bI_ne.mpr ((w_iff (lo := 0) (hi := 5) (by omega) (by omega) (by omega)).mpr ⟨by omega, j2⟩)) (nx := 3) rfl ?_
      refine qW.blk rfl ?_
      refine qv_iload rfl ?_
      refine qv_iconst (v := 10) rfl ?_
      refine qv_idivN (q := 10) rfl rfl (by omega) (by omega) (by omega) ?_
      refine qv_iload rfl ?_
      refine qv_iconst (v := 10) rfl ?_
      refine qv_iremN (q := 10) rfl rfl (by omega) (by omega) (by omega) ?_
      refine qv_static sg_Model_isNumber rfl (w_M_isNumber hP (by omega) j2 (nI (j % 10)) ?_) 
      refine qv_if_ne_t (bI_ne.mpr ((in_nI (by have := mostN_le (k := j / 10); omega)).mpr ⟨_, j3, rfl⟩)) (tgt := 5) rfl ?_
      refine qW.blk rfl ?_
      refine qv_aload rfl ?_
      refine qv_gr ly_163 ⟨rfl, rfl, rfl⟩ (by omega) ?_
      refine qv_iconst (v := 10) rfl ?_
      refine qv_iload rfl ?_
      refine qv_iaddN (p := 10) rfl rfl ?_
      refine qv_ia ly_164 rfl (by omega) (by decide) (hJ.thr.1 (10 + m) (by omega)) ?_
      refine qv_istore (L' := [_, _, _, _]) rfl ?_
      refine qv_aload rfl ?_
      refine qv_gr ly_163 ⟨rfl, rfl, rfl⟩ (by omega) ?_
      refine qv_iconst (v := 10) rfl ?_
      refine qv_iload rfl ?_
      refine qv_iaddN (p := 10) rfl rfl ?_
      refine qv_iload rfl ?_
      refine qv_iconst (v := 10) rfl ?_
      refine qv_idivN (q := 10) rfl rfl (by omega) (by omega) (by omega) ?_
      refine qv_is ly_164 rfl (by omega) (by decide) ?_
      refine qv_aload rfl ?_
      refine qv_gr ly_163 ⟨rfl, rfl, rfl⟩ (by omega) ?_
      refine qv_iconst (v := 30) rfl ?_
      refine qv_iload rfl ?_
      refine qv_iaddN (p := 30) rfl rfl ?_
      refine qv_iload rfl ?_
      refine qv_iconst (v := 10) rfl ?_
      refine qv_iremN (q := 10) rfl rfl (by omega) (by omega) (by omega) ?_
      refine qv_is ly_164 rfl (by omega) (by decide) ?_
      refine qv_iload rfl ?_
      refine qv_iret (rfl) ?_
      exact hk _ ((hJ.thr.upd (by omega)).upd (by omega)) ((((qfr.rf s).uF (by omega)).uE (by omega)).uE (by omega))
  · refine ⟨.int (-1), A, hA, ?_, ?_⟩
    · intro s Q hJ hk
      have fin := hk s hJ (cfr.rf s)
      refine qP.of (L := [_, _, _, _, _]) (by omega) (hP _ rfl) ms_Desk_becomes rfl ?_
      show qW X PR (d - 1) (some .int) cd_Desk_becomes 0 _ _ _ _
      rcases pl_of a (aC A 2) with hm | hm
      · obtain ⟨m, hm, rfl⟩ := hm
        by_cases ht : t < 0
        · refine qW.blk rfl ?_
          refine qv_aload rfl ?_
          refine qv_gr ly_8 ⟨rfl, rfl, rfl⟩ (by omega) ?_
          refine qv_iload rfl ?_
          refine qv_virtE (ly_9.rcv _) sg_Chamber_memberAt rfl rfl (r_memberAt_y hP (by omega) hJ.1.2.2.1 hM hm) ?_
          refine qv_astore (L' := [_, _, _, _, _]) rfl ?_
          refine qv_aload rfl ?_
          refine qv_null_f (nx := 1) rfl ?_
          refine qW.blk rfl ?_
          refine qv_iload rfl ?_
          refine qv_if_lt_t (ht) (tgt := 3) rfl ?_
          refine qW.blk rfl ?_
          refine qv_iconst (v := (-1)) rfl ?_
          refine qv_iret (rfl) ?_
          exact fin
        · obtain ⟨j, j1, rfl⟩ := nI_of ht
          have hfit : ¬ (j / 10 ≤ 5 ∧ j % 10 ≤ mostN (j / 10)) := fun z => h0 ⟨⟨m, hm, rfl⟩, j, j1, rfl, z.1, z.2⟩
          have b0 : qW X PR (d - 1) (some .int) cd_Desk_becomes 0 [some (.ref (8)), some (.int (nI m)), some (.int (nI j)), none, none] [] s Q := by
            refine qW.blk rfl ?_
            refine qv_aload rfl ?_
            refine qv_gr ly_8 ⟨rfl, rfl, rfl⟩ (by omega) ?_
            refine qv_iload rfl ?_
            refine qv_virtE (ly_9.rcv _) sg_Chamber_memberAt rfl rfl (r_memberAt_y hP (by omega) hJ.1.2.2.1 hM hm) ?_
            refine qv_astore (L' := [_, _, _, _, _]) rfl ?_
            refine qv_aload rfl ?_
            refine qv_null_f (nx := 1) rfl ?_
            refine qW.blk rfl ?_
            refine qv_iload rfl ?_
            refine qv_if_ltNf rfl (by omega) (by omega) (nx := 2) rfl ?_
            refine qW.blk rfl ?_
            refine qv_iload rfl ?_
            refine qv_iconst (v := 10) rfl ?_
            refine qv_idivN (q := 10) rfl rfl (by omega) (by omega) (by omega) ?_
            refine qv_iload rfl ?_
            refine qv_iconst (v := 10) rfl ?_
            refine qv_iremN (q := 10) rfl rfl (by omega) (by omega) (by omega) ?_
            refine qv_staticE sg_Desk_fits rfl (r_Desk_fits hP hX1 (by omega) (nI (j / 10)) (nI (j % 10)) (fit_iff (by omega) (by omega))) ?_
            refine qv_if_ne_f (fun zq => zq (bI_f (hfit))) (nx := 3) rfl ?_
            refine qW.blk rfl ?_
            refine qv_iconst (v := (-1)) rfl ?_
            refine qv_iret (rfl) ?_
            exact fin
          exact b0
      · have b0 : qW X PR (d - 1) (some .int) cd_Desk_becomes 0 [some (.ref (8)), some (.int (a)), some (.int (t)), none, none] [] s Q := by
          refine qW.blk rfl ?_
          refine qv_aload rfl ?_
          refine qv_gr ly_8 ⟨rfl, rfl, rfl⟩ (by omega) ?_
          refine qv_iload rfl ?_
          refine qv_virtE (ly_9.rcv _) sg_Chamber_memberAt rfl rfl (r_memberAt_n hP (by omega) hJ.1.2.2.1 hM hm) ?_
          refine qv_astoreN (L' := [_, _, _, _, _]) rfl ?_
          refine qv_aloadN rfl ?_
          refine qv_null_t (tgt := 3) rfl ?_
          refine qW.blk rfl ?_
          refine qv_iconst (v := (-1)) rfl ?_
          refine qv_iret (rfl) ?_
          exact fin
        exact b0
    · intro s Q hJ hk
      have fin := hk (uF s 163 0 0) hJ.thr ((qfr.rf s).uF (by omega))
      refine qP.of (L := [_, _, _, _]) (by omega) (hP _ rfl) ms_Model_becomes rfl ?_
      show qW X PR (d - 1) (some .int) cd_Model_becomes 0 _ _ _ _
      rcases pl_of a (aC A 2) with hm | hm
      · by_cases ht : t < 0
        · refine qW.blk rfl ?_
          refine qv_aload rfl ?_
          refine qv_iconst (v := 0) rfl ?_
          refine qv_pi ly_163 ⟨rfl, rfl, rfl⟩ (rfl) ?_
          refine qv_aload rfl ?_
          refine qv_iload rfl ?_
          refine qv_virtE (ly_163.rcv _) sg_Model_isMember rfl rfl (r_M_isMember hP (by omega) a (hJ.thr.1 2 (by decide))) ?_
          refine qv_if_eq_f (bI_ne.mpr ((in_nI1 (by omega)).mpr hm)) (nx := 1) rfl ?_
          refine qW.blk rfl ?_
          refine qv_iload rfl ?_
          refine qv_if_lt_t (ht) (tgt := 4) rfl ?_
          refine qW.blk rfl ?_
          refine qv_iconst (v := (-1)) rfl ?_
          refine qv_iret (rfl) ?_
          exact fin
        · obtain ⟨j, j1, rfl⟩ := nI_of ht
          have b0 : qW X PR (d - 1) (some .int) cd_Model_becomes 0 [some (.ref (163)), some (.int (a)), some (.int (nI j)), none] [] s Q := by
            by_cases hq : nI 0 ≤ nI (j / 10) ∧ nI (j / 10) ≤ nI 5
            · have h5 : j / 10 ≤ 5 := ((w_iff (lo := 0) (hi := 5) (by omega) (by omega) (by omega)).mp hq).2
              have hfit : ¬ (0 ≤ nI (j % 10) ∧ nI (j % 10) ≤ nI (mostN (j / 10))) := fun z => by
                obtain ⟨n, z3, z4⟩ := (in_nI (by have := mostN_le (k := j / 10); omega)).mp z
                have e2 := (nI_eq (a := j % 10) (b := n) (by omega) (by have := mostN_le (k := j / 10); omega)).mp z4
                exact h0 ⟨hm, j, j1, rfl, h5, by rw [e2]; exact z3⟩
              refine qW.blk rfl ?_
              refine qv_aload rfl ?_
              refine qv_iconst (v := 0) rfl ?_
              refine qv_pi ly_163 ⟨rfl, rfl, rfl⟩ (rfl) ?_
              refine qv_aload rfl ?_
              refine qv_iload rfl ?_
              refine qv_virtE (ly_163.rcv _) sg_Model_isMember rfl rfl (r_M_isMember hP (by omega) a (hJ.thr.1 2 (by decide))) ?_
              refine qv_if_eq_f (bI_ne.mpr ((in_nI1 (by omega)).mpr hm)) (nx := 1) rfl ?_
              refine qW.blk rfl ?_
              refine qv_iload rfl ?_
              refine qv_if_ltNf rfl (by omega) (by omega) (nx := 2) rfl ?_
              refine qW.blk rfl ?_
              refine qv_iload rfl ?_
              refine qv_iconst (v := 10) rfl ?_
              refine qv_idivN (q := 10) rfl rfl (by omega) (by omega) (by omega) ?_
              refine qv_iconst (v := 0) rfl ?_
              refine qv_iconst (v := 5) rfl ?_
              refine qv_staticE sg_Model_in rfl (r_Model_in hP (by omega) (nI (j / 10)) (nI 0) (nI 5) _) ?_
              refine qv_if_eq_f (bI_ne.mpr (hq)) (nx := 3) rfl ?_
              refine qW.blk rfl ?_
              refine qv_iload rfl ?_
              refine qv_iconst (v := 10) rfl ?_
              refine qv_idivN (q := 10) rfl rfl (by omega) (by omega) (by omega) ?_
              refine qv_iload rfl ?_
              refine qv_iconst (v := 10) rfl ?_
              refine qv_iremN (q := 10) rfl rfl (by omega) (by omega) (by omega) ?_
              refine qv_static sg_Model_isNumber rfl (w_M_isNumber hP (by omega) h5 (nI (j % 10)) ?_) 
              refine qv_if_ne_f (fun zq => zq (bI_f (hfit))) (nx := 4) rfl ?_
              refine qW.blk rfl ?_
              refine qv_iconst (v := (-1)) rfl ?_
              refine qv_iret (rfl) ?_
              exact fin
            · refine qW.blk rfl ?_
              refine qv_aload rfl ?_
              refine qv_iconst (v := 0) rfl ?_
              refine qv_pi ly_163 ⟨rfl, rfl, rfl⟩ (rfl) ?_
              refine qv_aload rfl ?_
              refine qv_iload rfl ?_
              refine qv_virtE (ly_163.rcv _) sg_Model_isMember rfl rfl (r_M_isMember hP (by omega) a (hJ.thr.1 2 (by decide))) ?_
              refine qv_if_eq_f (bI_ne.mpr ((in_nI1 (by omega)).mpr hm)) (nx := 1) rfl ?_
              refine qW.blk rfl ?_
              refine qv_iload rfl ?_
              refine qv_if_ltNf rfl (by omega) (by omega) (nx := 2) rfl ?_
              refine qW.blk rfl ?_
              refine qv_iload rfl ?_
              refine qv_iconst (v := 10) rfl ?_
              refine qv_idivN (q := 10) rfl rfl (by omega) (by omega) (by omega) ?_
              refine qv_iconst (v := 0) rfl ?_
              refine qv_iconst (v := 5) rfl ?_
              refine qv_staticE sg_Model_in rfl (r_Model_in hP (by omega) (nI (j / 10)) (nI 0) (nI 5) _) ?_
              refine qv_if_eq_t (bI_f (hq)) (tgt := 4) rfl ?_
              refine qW.blk rfl ?_
              refine qv_iconst (v := (-1)) rfl ?_
              refine qv_iret (rfl) ?_
              exact fin
          exact b0
      · have b0 : qW X PR (d - 1) (some .int) cd_Model_becomes 0 [some (.ref (163)), some (.int (a)), some (.int (t)), none] [] s Q := by
          refine qW.blk rfl ?_
          refine qv_aload rfl ?_
          refine qv_iconst (v := 0) rfl ?_
          refine qv_pi ly_163 ⟨rfl, rfl, rfl⟩ (rfl) ?_
          refine qv_aload rfl ?_
          refine qv_iload rfl ?_
          refine qv_virtE (ly_163.rcv _) sg_Model_isMember rfl rfl (r_M_isMember hP (by omega) a (hJ.thr.1 2 (by decide))) ?_
          refine qv_if_eq_t (bI_f (fun z => hm ((in_nI1 (by omega)).mp z))) (tgt := 4) rfl ?_
          refine qW.blk rfl ?_
          refine qv_iconst (v := (-1)) rfl ?_
          refine qv_iret (rfl) ?_
          exact fin
        exact b0
end
