/-! keep, row, put, copy are alike -/
section
variable {X : pm_X} {PR : pm_P}
def memF (C : Nat → Nat) (m : Nat) : Nat → Nat := fun q => if q = 0 then m else C (10 * q + m)
theorem Sim_keep (hP : pm_np PR) (a w b : Int32) : Sim X PR 155 251 [.int a, .int w, .int b] := by
  intro d A hd hA
  have hC := hA.1
  have hM := hC.2.2.2.1
  rcases pl_of a 8 with ⟨k, hk8, rfl⟩ | hn
  · obtain ⟨s1, s2, s3, s4, s5⟩ := hA.2.2.2.2 k hk8
    by_cases w0 : w = 0
    · subst w0
      refine ⟨.int 0, aSh A k (0, (aS A k).2), hA.sh ⟨(by show 0 ≤ 2; decide), s2, s3, fun z => (by cases z), fun z => (by cases z)⟩, ?_, ?_⟩
      · intro s Q hJ hk
        refine qP.of (L := [_, _, _, _, _, _]) (by omega) (hP _ rfl) ms_Desk_keep rfl ?_
        show qW X PR (d - 1) (some .int) cd_Desk_keep 0 _ _ _ _
        refine qW.blk rfl ?_
        refine qv_aload rfl ?_
        refine qv_iload rfl ?_
        refine qv_virtE (ly_8.rcv _) sg_Desk_shelfAt rfl rfl (r_shelfAt_y hP (by omega) hk8) ?_
        refine qv_astore (L' := [_, _, _, _, _, _]) rfl ?_
        refine qv_aload rfl ?_
        refine qv_null_f (nx := 1) rfl ?_
        refine qW.blk rfl ?_
        refine qv_iload rfl ?_
        refine qv_iconst (v := 0) rfl ?_
        refine qv_iconst (v := 1) rfl ?_
        refine qv_staticE sg_Desk_within rfl (r_Desk_within hP (by omega) 0 0 1 _) ?_
        refine qv_if_ne_t (bI_ne.mpr (⟨by decide, by decide⟩)) (tgt := 3) rfl ?_
        refine qW.blk rfl ?_
        refine qv_iload rfl ?_
        refine qv_if_ne_f (fun z => z rfl) (nx := 4) rfl ?_
        refine qW.blk rfl ?_
        refine qv_aload rfl ?_
        refine qv_iconst (v := 0) rfl ?_
        refine qv_pi (ly_sh (d := k) (by omega)) ⟨rfl, rfl, rfl⟩ (rfl) ?_
        refine qv_iconst (v := 0) rfl ?_
        refine qv_iret (rfl) ?_
        exact hk _ (hJ.sh hA hk8 ((qfr.rf s).uF (by omega)) ⟨by rw [qF_uFs]; rfl, fun z => (by cases z), fun z => (by cases z)⟩) (((qfr.rf (lo := 123 + 5 * k) (hi := 127 + 5 * k) s).uF (by omega)).c (by omega) (by omega))
      · intro s Q hJ hk
        refine qP.of (L := [_, _, _, _]) (by omega) (hP _ rfl) ms_Model_keep rfl ?_
        show qW X PR (d - 1) (some .int) cd_Model_keep 0 _ _ _ _
        refine qW.blk rfl ?_
        refine qv_aload rfl ?_
        refine qv_iconst (v := 0) rfl ?_
        refine qv_pi ly_163 ⟨rfl, rfl, rfl⟩ (rfl) ?_
        refine qv_iload rfl ?_
        refine qv_iconst (v := 0) rfl ?_
        refine qv_iconst (v := 7) rfl ?_
        refine qv_staticE sg_Model_in rfl (r_Model_in hP (by omega) (nI k) (nI 0) (nI 7) _) ?_
        refine qv_if_eq_f (bI_ne.mpr (nI7in hk8)) (nx := 1) rfl ?_
        refine qW.blk rfl ?_
        refine qv_iload rfl ?_
        refine qv_iconst (v := 0) rfl ?_
        refine qv_iconst (v := 1) rfl ?_
        refine qv_staticE sg_Model_in rfl (r_Model_in hP (by omega) 0 0 1 _) ?_
        refine qv_if_eq_f (bI_ne.mpr (⟨by decide, by decide⟩)) (nx := 2) rfl ?_
        refine qW.blk rfl ?_
        refine qv_iload rfl ?_
        refine qv_iconst (v := 1) rfl ?_
        refine qv_icmp_ne_t (by decide) (tgt := 5) rfl ?_
        refine qW.blk rfl ?_
        refine qv_aload rfl ?_
        refine qv_gr ly_163 ⟨rfl, rfl, rfl⟩ (by omega) ?_
        refine qv_iload rfl ?_
        refine qv_iload rfl ?_
        refine qv_is ly_196 rfl (by omega) (by decide) ?_
        refine qv_iload rfl ?_
        refine qv_iconst (v := 1) rfl ?_
        refine qv_icmp_ne_t (by decide) (tgt := 7) rfl ?_
        refine qW.blk rfl ?_
        refine qv_iconst (v := 0) rfl ?_
        refine qv_iret (rfl) ?_
        exact hk _ (hJ.sh ((rshf.rf k s).thr.sE (by omega)) ⟨by rw [qE_uEs]; rfl, fun z => (by cases z), fun z => (by cases z)⟩) (((qfr.rf s).uF (by omega)).uE (by omega))
    by_cases w1 : w = 1 ∧ ∃ m, m < aC A 2 ∧ b = nI m
    · obtain ⟨rfl, m, hm, rfl⟩ := w1
      obtain ⟨c1, c2, c3, c4, c5, c6, c7⟩ := hC.2.2.2.2.2 m hm
      refine ⟨.int 0, aSh A k (1, (aS A k).2.1, (aS A k).2.2.1, (aS A k).2.2.2.1, memF (aC A) m), hA.sh ⟨by show 1 ≤ 2; decide, s2, s3, fun z => (by cases z), fun _ => ⟨by show m < 9; omega, c1, c2, c3, hC.num hm, c5⟩⟩, ?_, ?_⟩
      · intro s Q hJ hk
        have cm := hJ.1.2.2.2.2 m hm
        refine qP.of (L := [_, _, _, _, _, _]) (by omega) (hP _ rfl) ms_Desk_keep rfl ?_
        show qW X PR (d - 1) (some .int) cd_Desk_keep 0 _ _ _ _
        refine qW.blk rfl ?_
        refine qv_aload rfl ?_
        refine qv_iload rfl ?_
        refine qv_virtE (ly_8.rcv _) sg_Desk_shelfAt rfl rfl (r_shelfAt_y hP (by omega) hk8) ?_
        refine qv_astore (L' := [_, _, _, _, _, _]) rfl ?_
        refine qv_aload rfl ?_
        refine qv_null_f (nx := 1) rfl ?_
        refine qW.blk rfl ?_
        refine qv_iload rfl ?_
        refine qv_iconst (v := 0) rfl ?_
        refine qv_iconst (v := 1) rfl ?_
        refine qv_staticE sg_Desk_within rfl (r_Desk_within hP (by omega) 1 0 1 _) ?_
        refine qv_if_ne_t (bI_ne.mpr (⟨by decide, by decide⟩)) (tgt := 3) rfl ?_
        refine qW.blk rfl ?_
        refine qv_iload rfl ?_
        refine qv_if_ne_t (by decide) (tgt := 5) rfl ?_
        refine qW.blk rfl ?_
        refine qv_aload rfl ?_
        refine qv_gr ly_8 ⟨rfl, rfl, rfl⟩ (by omega) ?_
        refine qv_iload rfl ?_
        refine qv_virtE (ly_9.rcv _) sg_Chamber_memberAt rfl rfl (r_memberAt_y hP (by omega) hJ.1.2.2.1 hM hm) ?_
        refine qv_astore (L' := [_, _, _, _, _, _]) rfl ?_
        refine qv_aload rfl ?_
        refine qv_nonnull_t (tgt := 7) rfl ?_
        refine qW.blk rfl ?_
        refine qv_aload rfl ?_
        refine qv_gr (ly_sh (d := k) (by omega)) ⟨rfl, rfl, rfl⟩ (by omega) ?_
        refine qv_aload rfl ?_
        refine qv_virt ((mb_sh (d := k) (by omega)).1.rcv _) sg_Member_takeOver rfl rfl (w_Member_takeOver hP (by omega) (mb_sh hk8) (mb_now (m := m) (by omega)) (by omega) (fun s2 F2 x1 x2 => ?_)) 
        refine qv_aload rfl ?_
        refine qv_iconst (v := 1) rfl ?_
        refine qv_pi (ly_sh (d := k) (by omega)) ⟨rfl, rfl, rfl⟩ (rfl) ?_
        refine qv_iconst (v := 0) rfl ?_
        refine qv_iret (rfl) ?_
        have F : qfr (123 + 5 * k) (127 + 5 * k) s (uF s2 (123 + 5 * k) 0 1) := (F2.mono (by omega) (by omega)).uF (by omega)
        refine hk _ (hJ.sh hA hk8 F ⟨by rw [qF_uFs]; rfl, fun z => (by cases z), fun _ q hq => ?_⟩) (F.c (by omega) (by omega))
        rw [qF_uFc (by omega), x1 q (by omega)]
        show qF s (12 + 3 * m) q = nI (if q = 0 then m else aC A (10 * q + m))
        rcases (show q = 0 ∨ q = 1 ∨ q = 2 ∨ q = 3 ∨ q = 4 by omega) with rfl | rfl | rfl | rfl | rfl
        · rw [if_pos rfl]; exact cm.1
        · rw [if_neg (by decide)]; exact cm.2.1
        · rw [if_neg (by decide)]; exact cm.2.2.1
        · rw [if_neg (by decide)]; exact cm.2.2.2.1
        · rw [if_neg (by decide)]; exact cm.2.2.2.2.1
      · intro s Q hJ hk
        have h1 : rC (uE (uF s 163 0 0) 196 k 1) 164 (aC A) := hJ.1
        refine qP.of (L := [_, _, _, _]) (by omega) (hP _ rfl) ms_Model_keep rfl ?_
        show qW X PR (d - 1) (some .int) cd_Model_keep 0 _ _ _ _
        refine qW.blk rfl ?_
        refine qv_aload rfl ?_
        refine qv_iconst (v := 0) rfl ?_
        refine qv_pi ly_163 ⟨rfl, rfl, rfl⟩ (rfl) ?_
        refine qv_iload rfl ?_
        refine qv_iconst (v := 0) rfl ?_
        refine qv_iconst (v := 7) rfl ?_
        refine qv_staticE sg_Model_in rfl (r_Model_in hP (by omega) (nI k) (nI 0) (nI 7) _) ?_
        refine qv_if_eq_f (bI_ne.mpr (nI7in hk8)) (nx := 1) rfl ?_
        refine qW.blk rfl ?_
        refine qv_iload rfl ?_
        refine qv_iconst (v := 0) rfl ?_
        refine qv_iconst (v := 1) rfl ?_
        refine qv_staticE sg_Model_in rfl (r_Model_in hP (by omega) 1 0 1 _) ?_
        refine qv_if_eq_f (bI_ne.mpr (⟨by decide, by decide⟩)) (nx := 2) rfl ?_
        refine qW.blk rfl ?_
        refine qv_iload rfl ?_
        refine qv_iconst (v := 1) rfl ?_
        refine qv_icmp_ne_f (fun z => z rfl) (nx := 3) rfl ?_
        refine qW.blk rfl ?_
        refine qv_aload rfl ?_
        refine qv_iload rfl ?_
        refine qv_virtE (ly_163.rcv _) sg_Model_isMember rfl rfl (r_M_isMember hP (by omega) (nI m) (hJ.thr.1 2 (by decide))) ?_
        refine qv_if_ne_t (bI_ne.mpr ((in_nI1 (by omega)).mpr ⟨m, hm, rfl⟩)) (tgt := 5) rfl ?_
        refine qW.blk rfl ?_
        refine qv_aload rfl ?_
        refine qv_gr ly_163 ⟨rfl, rfl, rfl⟩ (by omega) ?_
        refine qv_iload rfl ?_
        refine qv_iload rfl ?_
        refine qv_is ly_196 rfl (by omega) (by decide) ?_
        refine qv_iload rfl ?_
        refine qv_iconst (v := 1) rfl ?_
        refine qv_icmp_ne_f (fun z => z rfl) (nx := 6) rfl ?_
        refine qW.blk rfl ?_
        refine qv_aload rfl ?_
        refine qv_gr ly_163 ⟨rfl, rfl, rfl⟩ (by omega) ?_
        refine qv_iload rfl ?_
        refine qv_aload rfl ?_
        refine qv_iload rfl ?_
        refine qv_virt (ly_163.rcv _) sg_Model_heftOf rfl rfl (w_M_heftOf hP (by omega) h1 hC hm ?_) 
        refine qv_is ly_197 rfl (by omega) (by decide) ?_
        refine qv_aload rfl ?_
        refine qv_gr ly_163 ⟨rfl, rfl, rfl⟩ (by omega) ?_
        refine qv_iload rfl ?_
        refine qv_aload rfl ?_
        refine qv_iload rfl ?_
        refine qv_virt (ly_163.rcv _) sg_Model_failureOf rfl rfl (w_M_failureOf hP (by omega) (h1.cg (qE_uEc (by omega))) hC hm ?_) 
        refine qv_is ly_198 rfl (by omega) (by decide) ?_
        refine qv_nil (nx := 7) rfl ?_
        refine qW.blk rfl ?_
        refine qv_iconst (v := 0) rfl ?_
        refine qv_iret (rfl) ?_
        refine hk _ (hJ.sh ((((rshf.rf k s).thr.sE (by omega)).sE (by omega)).sE (by omega)) ⟨?_, fun z => (by cases z), fun _ => ⟨?_, ?_⟩⟩) (((((qfr.rf s).uF (by omega)).uE (by omega)).uE (by omega)).uE (by omega))
        · rw [qE_uEc (by omega), qE_uEc (by omega), qE_uEs]; rfl
        · rw [qE_uEc (by omega), qE_uEs]; rfl
        · rw [qE_uEs]; rfl
    · refine ⟨.int (-1), A, hA, ?_, ?_⟩
      · intro s Q hJ hk
        have fin := hk s hJ (cfr.rf s)
        refine qP.of (L := [_, _, _, _, _, _]) (by omega) (hP _ rfl) ms_Desk_keep rfl ?_
        show qW X PR (d - 1) (some .int) cd_Desk_keep 0 _ _ _ _
        by_cases w2 : 0 ≤ w ∧ w ≤ 1
        · have hb : ¬ ∃ m, m < aC A 2 ∧ b = nI m := fun z => w1 ⟨by
            obtain ⟨j, h1, h2⟩ := (in_nI (n := 1) (by omega)).mp w2
            rcases (show j = 0 ∨ j = 1 by omega) with rfl | rfl
            · exact absurd h2 w0
            · exact h2, z⟩
          refine qW.blk rfl ?_
          refine qv_aload rfl ?_
          refine qv_iload rfl ?_
          refine qv_virtE (ly_8.rcv _) sg_Desk_shelfAt rfl rfl (r_shelfAt_y hP (by omega) hk8) ?_
          refine qv_astore (L' := [_, _, _, _, _, _]) rfl ?_
          refine qv_aload rfl ?_
          refine qv_null_f (nx := 1) rfl ?_
          refine qW.blk rfl ?_
          refine qv_iload rfl ?_
          refine qv_iconst (v := 0) rfl ?_
          refine qv_iconst (v := 1) rfl ?_
          refine qv_staticE sg_Desk_within rfl (r_Desk_within hP (by omega) w 0 1 _) ?_
          refine qv_if_ne_t (bI_ne.mpr (w2)) (tgt := 3) rfl ?_
          refine qW.blk rfl ?_
          refine qv_iload rfl ?_
          refine qv_if_ne_t (w0) (tgt := 5) rfl ?_
          refine qW.blk rfl ?_
          refine qv_aload rfl ?_
          refine qv_gr ly_8 ⟨rfl, rfl, rfl⟩ (by omega) ?_
          refine qv_iload rfl ?_
          refine qv_virtE (ly_9.rcv _) sg_Chamber_memberAt rfl rfl (r_memberAt_n hP (by omega) hJ.1.2.2.1 hM hb) ?_
          refine qv_astoreN (L' := [_, _, _, _, _, _]) rfl ?_
          refine qv_aloadN rfl ?_
          refine qv_nonnull_f (nx := 6) rfl ?_
          refine qW.blk rfl ?_
          refine qv_iconst (v := (-1)) rfl ?_
          refine qv_iret (rfl) ?_
          exact fin
        · refine qW.blk rfl ?_
          refine qv_aload rfl ?_
          refine qv_iload rfl ?_
          refine qv_virtE (ly_8.rcv _) sg_Desk_shelfAt rfl rfl (r_shelfAt_y hP (by omega) hk8) ?_
          refine qv_astore (L' := [_, _, _, _, _, _]) rfl ?_
          refine qv_aload rfl ?_
          refine qv_null_f (nx := 1) rfl ?_
          refine qW.blk rfl ?_
          refine qv_iload rfl ?_
          refine qv_iconst (v := 0) rfl ?_
          refine qv_iconst (v := 1) rfl ?_
          refine qv_staticE sg_Desk_within rfl (r_Desk_within hP (by omega) w 0 1 _) ?_
          refine qv_if_ne_f (fun zq => zq (bI_f (w2))) (nx := 2) rfl ?_
          refine qW.blk rfl ?_
          refine qv_iconst (v := (-1)) rfl ?_
          refine qv_iret (rfl) ?_
          exact fin
      · intro s Q hJ hk
        have fin := hk (uF s 163 0 0) hJ.thr ((qfr.rf s).uF (by omega))
        refine qP.of (L := [_, _, _, _]) (by omega) (hP _ rfl) ms_Model_keep rfl ?_
        show qW X PR (d - 1) (some .int) cd_Model_keep 0 _ _ _ _
        by_cases w2 : 0 ≤ w ∧ w ≤ 1
        · have hw1 : w = 1 := by
            obtain ⟨j, h1, h2⟩ := (in_nI (n := 1) (by omega)).mp w2
            rcases (show j = 0 ∨ j = 1 by omega) with rfl | rfl
            · exact absurd h2 w0
            · exact h2
          have hb : ¬ ∃ m, m < aC A 2 ∧ b = nI m := fun z => w1 ⟨hw1, z⟩
          refine qW.blk rfl ?_
          refine qv_aload rfl ?_
          refine qv_iconst (v := 0) rfl ?_
          refine qv_pi ly_163 ⟨rfl, rfl, rfl⟩ (rfl) ?_
          refine qv_iload rfl ?_
          refine qv_iconst (v := 0) rfl ?_
          refine qv_iconst (v := 7) rfl ?_
          refine qv_staticE sg_Model_in rfl (r_Model_in hP (by omega) (nI k) (nI 0) (nI 7) _) ?_
          refine qv_if_eq_f (bI_ne.mpr (nI7in hk8)) (nx := 1) rfl ?_
          refine qW.blk rfl ?_
          refine qv_iload rfl ?_
          refine qv_iconst (v := 0) rfl ?_
          refine qv_iconst (v := 1) rfl ?_
          refine qv_staticE sg_Model_in rfl (r_Model_in hP (by omega) w 0 1 _) ?_
          refine qv_if_eq_f (bI_ne.mpr (w2)) (nx := 2) rfl ?_
          refine qW.blk rfl ?_
          refine qv_iload rfl ?_
          refine qv_iconst (v := 1) rfl ?_
          refine qv_icmp_ne_f (fun z => z hw1) (nx := 3) rfl ?_
          refine qW.blk rfl ?_
          refine qv_aload rfl ?_
          refine qv_iload rfl ?_
          refine qv_virtE (ly_163.rcv _) sg_Model_isMember rfl rfl (r_M_isMember hP (by omega) b (hJ.thr.1 2 (by decide))) ?_
          refine qv_if_ne_f (fun zq => zq (bI_f (fun z => hb ((in_nI1 (by omega)).mp z)))) (nx := 4) rfl ?_
          refine qW.blk rfl ?_
          refine qv_iconst (v := (-1)) rfl ?_
          refine qv_iret (rfl) ?_
          exact fin
        · refine qW.blk rfl ?_
          refine qv_aload rfl ?_
          refine qv_iconst (v := 0) rfl ?_
          refine qv_pi ly_163 ⟨rfl, rfl, rfl⟩ (rfl) ?_
          refine qv_iload rfl ?_
          refine qv_iconst (v := 0) rfl ?_
          refine qv_iconst (v := 7) rfl ?_
          refine qv_staticE sg_Model_in rfl (r_Model_in hP (by omega) (nI k) (nI 0) (nI 7) _) ?_
          refine qv_if_eq_f (bI_ne.mpr (nI7in hk8)) (nx := 1) rfl ?_
          refine qW.blk rfl ?_
          refine qv_iload rfl ?_
          refine qv_iconst (v := 0) rfl ?_
          refine qv_iconst (v := 1) rfl ?_
          refine qv_staticE sg_Model_in rfl (r_Model_in hP (by omega) w 0 1 _) ?_
          refine qv_if_eq_t (bI_f (w2)) (tgt := 4) rfl ?_
          refine qW.blk rfl ?_
          refine qv_iconst (v := (-1)) rfl ?_
          refine qv_iret (rfl) ?_
          exact fin
  · refine ⟨.int (-1), A, hA, ?_, ?_⟩
    · intro s Q hJ hk
      refine qP.of (L := [_, _, _, _, _, _]) (by omega) (hP _ rfl) ms_Desk_keep rfl ?_
      show qW X PR (d - 1) (some .int) cd_Desk_keep 0 _ _ _ _
      refine qW.blk rfl ?_
      refine qv_aload rfl ?_
      refine qv_iload rfl ?_
      refine qv_virtE (ly_8.rcv _) sg_Desk_shelfAt rfl rfl (r_shelfAt_n hP (by omega) hn) ?_
      refine qv_astoreN (L' := [_, _, _, _, _, _]) rfl ?_
      refine qv_aloadN rfl ?_
      refine qv_null_t (tgt := 2) rfl ?_
      refine qW.blk rfl ?_
      refine qv_iconst (v := (-1)) rfl ?_
      refine qv_iret (rfl) ?_
      exact hk s hJ (cfr.rf s)
    · intro s Q hJ hk
      refine qP.of (L := [_, _, _, _]) (by omega) (hP _ rfl) ms_Model_keep rfl ?_
      show qW X PR (d - 1) (some .int) cd_Model_keep 0 _ _ _ _
      refine qW.blk rfl ?_
      refine qv_aload rfl ?_
      refine qv_iconst (v := 0) rfl ?_
      refine qv_pi ly_163 ⟨rfl, rfl, rfl⟩ (rfl) ?_
      refine qv_iload rfl ?_
      refine qv_iconst (v := 0) rfl ?_
      refine qv_iconst (v := 7) rfl ?_
      refine qv_staticE sg_Model_in rfl (r_Model_in hP (by omega) a 0 (nI 7) _) ?_
      refine qv_if_eq_t (bI_f (not7 hn)) (tgt := 4) rfl ?_
      refine qW.blk rfl ?_
      refine qv_iconst (v := (-1)) rfl ?_
      refine qv_iret (rfl) ?_
      exact hk (uF s 163 0 0) hJ.thr ((qfr.rf s).uF (by omega))
theorem Sim_row (hP : pm_np PR) (a w n : Int32) : Sim X PR 156 253 [.int a, .int w, .int n] := by
  intro d A hd hA
  rcases pl_of a 8 with ⟨k, hk8, rfl⟩ | hn
  · by_cases w2 : 0 ≤ w ∧ w ≤ nI 2
    · by_cases n1 : n ≤ nI 120
      · by_cases n0 : 0 ≤ n
        · obtain ⟨so, so2, rfl⟩ := (in_nI (n := 2) (by omega)).mp w2
          obtain ⟨z, z2, rfl⟩ := (in_nI (n := 120) (by omega)).mp ⟨n0, n1⟩
          refine ⟨.int 0, aSh A k (2, so, z, (fun _ => 0), (aS A k).2.2.2.2), hA.sh ⟨by show 2 ≤ 2; decide, so2, z2, fun _ _ j _ => ⟨by show -128 ≤ (0 : Int32).toInt; decide, by show (0 : Int32).toInt ≤ 127; decide⟩, fun z => by cases z⟩, ?_, ?_⟩
          · intro s Q hJ hk
            refine qP.of (L := [_, _, _, _, _]) (by omega) (hP _ rfl) ms_Desk_row rfl ?_
            show qW X PR (d - 1) (some .int) cd_Desk_row 0 _ _ _ _
            refine qW.blk rfl ?_
            refine qv_aload rfl ?_
            refine qv_iload rfl ?_
            refine qv_virtE (ly_8.rcv _) sg_Desk_shelfAt rfl rfl (r_shelfAt_y hP (by omega) hk8) ?_
            refine qv_astore (L' := [_, _, _, _, _]) rfl ?_
            refine qv_aload rfl ?_
            refine qv_null_f (nx := 1) rfl ?_
            refine qW.blk rfl ?_
            refine qv_iload rfl ?_
            refine qv_iconst (v := 0) rfl ?_
            refine qv_iconst (v := 2) rfl ?_
            refine qv_staticE sg_Desk_within rfl (r_Desk_within hP (by omega) (nI so) (nI 0) (nI 2) _) ?_
            refine qv_if_eq_f (bI_ne.mpr (w2)) (nx := 2) rfl ?_
            refine qW.blk rfl ?_
            refine qv_iload rfl ?_
            refine qv_iconst (v := 120) rfl ?_
            refine qv_icmp_leNt (q := 120) rfl rfl (by omega) (by omega) (by omega) (tgt := 4) rfl ?_
            refine qW.blk rfl ?_
            refine qv_iload rfl ?_
            refine qv_if_geNt rfl (by omega) (by omega) (tgt := 6) rfl ?_
            refine qW.blk rfl ?_
            refine qv_aload rfl ?_
            refine qv_iload rfl ?_
            refine qv_iload rfl ?_
            refine qv_virt ((ly_sh (d := k) (by omega)).rcv _) sg_Shelf_beginRow rfl rfl (w_Shelf_beginRow hP (by omega) hk8 (nI so) (nI z) (fun s1 F1 g0 g1 g2 g3 => ?_)) 
            refine qv_iconst (v := 0) rfl ?_
            refine qv_iret (rfl) ?_
            exact hk _ (hJ.sh hA hk8 F1 ⟨g0, fun _ => ⟨g1, g2, g3⟩, fun z => (by cases z)⟩) (F1.c (by omega) (by omega))
          · intro s Q hJ hk
            refine qP.of (L := [_, _, _, _, _]) (by omega) (hP _ rfl) ms_Model_row rfl ?_
            show qW X PR (d - 1) (some .int) cd_Model_row 0 _ _ _ _
            have loop : ∀ (q i : Nat) (s1 : QST), i + q = 120 → rshf k s s1 → qE s1 196 k = 2 → qE s1 199 k = nI so → qE s1 200 k = nI z → (∀ j, j < i → qL s1 201 (120 * k + j) = 0) → qW X PR (d - 1) (some .int) cd_Model_row 7 [some (.ref (163)), some (.int (nI k)), some (.int (nI so)), some (.int (nI z)), some (.int (nI i))] [] s1 Q := by
              intro q
              induction q with
              | zero =>
                intro i s1 hi F1 g0 g1 g2 g3
                have e : i = 120 := by omega
                subst e
                refine qW.blk rfl ?_
                refine qv_iload rfl ?_
                refine qv_iconst (v := 120) rfl ?_
                refine qv_icmp_geNt (q := 120) rfl rfl (by omega) (by omega) (by omega) (tgt := 9) rfl ?_
                refine qW.blk rfl ?_
                refine qv_iconst (v := 0) rfl ?_
                refine qv_iret (rfl) ?_
                exact hk _ (hJ.sh F1 ⟨g0, fun _ => ⟨g1, g2, g3⟩, fun z => (by cases z)⟩) F1.1
              | succ q ih =>
                intro i s1 hi F1 g0 g1 g2 g3
                refine qW.blk rfl ?_
                refine qv_iload rfl ?_
                refine qv_iconst (v := 120) rfl ?_
                refine qv_icmp_geNf (q := 120) rfl rfl (by omega) (by omega) (by omega) (nx := 8) rfl ?_
                refine qW.blk rfl ?_
                refine qv_aload rfl ?_
                refine qv_gr ly_163 ⟨rfl, rfl, rfl⟩ (by omega) ?_
                refine qv_iconst (v := 120) rfl ?_
                refine qv_iload rfl ?_
                refine qv_imulN (p := 120) rfl rfl ?_
                refine qv_iload rfl ?_
                refine qv_iaddN rfl rfl ?_
                refine qv_lconst (v := 0) rfl ?_
                refine qv_ls ly_201 rfl (by omega) (by decide) ?_
                refine qv_iinc (L' := [_, _, _, _, _]) rfl (nI_succ _).symm rfl ?_
                refine qv_goto (tgt := 7) rfl ?_
                refine ih (i + 1) _ (by omega) (F1.sL (by omega)) g0 g1 g2 (fun j hj => ?_)
                by_cases e : j = i
                · subst e; rw [qL_uLs]
                · rw [qL_uLk (by omega)]; exact g3 j (by omega)
            refine qW.blk rfl ?_
            refine qv_aload rfl ?_
            refine qv_iconst (v := 0) rfl ?_
            refine qv_pi ly_163 ⟨rfl, rfl, rfl⟩ (rfl) ?_
            refine qv_iload rfl ?_
            refine qv_iconst (v := 0) rfl ?_
            refine qv_iconst (v := 7) rfl ?_
            refine qv_staticE sg_Model_in rfl (r_Model_in hP (by omega) (nI k) (nI 0) (nI 7) _) ?_
            refine qv_if_eq_f (bI_ne.mpr (nI7in hk8)) (nx := 1) rfl ?_
            refine qW.blk rfl ?_
            refine qv_iload rfl ?_
            refine qv_iconst (v := 0) rfl ?_
            refine qv_iconst (v := 2) rfl ?_
            refine qv_staticE sg_Model_in rfl (r_Model_in hP (by omega) (nI so) (nI 0) (nI 2) _) ?_
            refine qv_if_eq_f (bI_ne.mpr (w2)) (nx := 2) rfl ?_
            refine qW.blk rfl ?_
            refine qv_iload rfl ?_
            refine qv_iconst (v := 120) rfl ?_
            refine qv_icmp_leNt (q := 120) rfl rfl (by omega) (by omega) (by omega) (tgt := 4) rfl ?_
            refine qW.blk rfl ?_
            refine qv_iload rfl ?_
            refine qv_if_geNt rfl (by omega) (by omega) (tgt := 6) rfl ?_
            refine qW.blk rfl ?_
            refine qv_aload rfl ?_
            refine qv_gr ly_163 ⟨rfl, rfl, rfl⟩ (by omega) ?_
            refine qv_iload rfl ?_
            refine qv_iconst (v := 2) rfl ?_
            refine qv_is ly_196 rfl (by omega) (by decide) ?_
            refine qv_aload rfl ?_
            refine qv_gr ly_163 ⟨rfl, rfl, rfl⟩ (by omega) ?_
            refine qv_iload rfl ?_
            refine qv_iload rfl ?_
            refine qv_is ly_199 rfl (by omega) (by decide) ?_
            refine qv_aload rfl ?_
            refine qv_gr ly_163 ⟨rfl, rfl, rfl⟩ (by omega) ?_
            refine qv_iload rfl ?_
            refine qv_iload rfl ?_
            refine qv_is ly_200 rfl (by omega) (by decide) ?_
            refine qv_iconst (v := 0) rfl ?_
            refine qv_istore (L' := [_, _, _, _, _]) rfl ?_
            refine qv_nil (nx := 7) rfl ?_
            refine loop 120 0 _ (by omega) ((((rshf.rf k s).thr.sE (by omega)).sE (by omega)).sE (by omega)) ?_ ?_ ?_ (fun j hj => by omega)
            · rw [qE_uEc (by omega), qE_uEc (by omega), qE_uEs]
            · rw [qE_uEc (by omega), qE_uEs]
            · rw [qE_uEs]
        · refine ⟨.int (-14), A, hA, ?_, ?_⟩
          · intro s Q hJ hk
            refine qP.of (L := [_, _, _, _, _]) (by omega) (hP _ rfl) ms_Desk_row rfl ?_
            show qW X PR (d - 1) (some .int) cd_Desk_row 0 _ _ _ _
            refine qW.blk rfl ?_
            refine qv_aload rfl ?_
            refine qv_iload rfl ?_
            refine qv_virtE (ly_8.rcv _) sg_Desk_shelfAt rfl rfl (r_shelfAt_y hP (by omega) hk8) ?_
            refine qv_astore (L' := [_, _, _, _, _]) rfl ?_
            refine qv_aload rfl ?_
            refine qv_null_f (nx := 1) rfl ?_
            refine qW.blk rfl ?_
            refine qv_iload rfl ?_
            refine qv_iconst (v := 0) rfl ?_
            refine qv_iconst (v := 2) rfl ?_
            refine qv_staticE sg_Desk_within rfl (r_Desk_within hP (by omega) w 0 (nI 2) _) ?_
            refine qv_if_eq_f (bI_ne.mpr (w2)) (nx := 2) rfl ?_
            refine qW.blk rfl ?_
            refine qv_iload rfl ?_
            refine qv_iconst (v := 120) rfl ?_
            refine qv_icmp_le_t (n1) (tgt := 4) rfl ?_
            refine qW.blk rfl ?_
            refine qv_iload rfl ?_
            refine qv_if_ge_f (n0) (nx := 5) rfl ?_
            refine qW.blk rfl ?_
            refine qv_iconst (v := (-14)) rfl ?_
            refine qv_iret (rfl) ?_
            exact hk s hJ (cfr.rf s)
          · intro s Q hJ hk
            refine qP.of (L := [_, _, _, _, _]) (by omega) (hP _ rfl) ms_Model_row rfl ?_
            show qW X PR (d - 1) (some .int) cd_Model_row 0 _ _ _ _
            refine qW.blk rfl ?_
            refine qv_aload rfl ?_
            refine qv_iconst (v := 0) rfl ?_
            refine qv_pi ly_163 ⟨rfl, rfl, rfl⟩ (rfl) ?_
            refine qv_iload rfl ?_
            refine qv_iconst (v := 0) rfl ?_
            refine qv_iconst (v := 7) rfl ?_
            refine qv_staticE sg_Model_in rfl (r_Model_in hP (by omega) (nI k) (nI 0) (nI 7) _) ?_
            refine qv_if_eq_f (bI_ne.mpr (nI7in hk8)) (nx := 1) rfl ?_
            refine qW.blk rfl ?_
            refine qv_iload rfl ?_
            refine qv_iconst (v := 0) rfl ?_
            refine qv_iconst (v := 2) rfl ?_
            refine qv_staticE sg_Model_in rfl (r_Model_in hP (by omega) w (nI 0) (nI 2) _) ?_
            refine qv_if_eq_f (bI_ne.mpr (w2)) (nx := 2) rfl ?_
            refine qW.blk rfl ?_
            refine qv_iload rfl ?_
            refine qv_iconst (v := 120) rfl ?_
            refine qv_icmp_le_t (n1) (tgt := 4) rfl ?_
            refine qW.blk rfl ?_
            refine qv_iload rfl ?_
            refine qv_if_ge_f (n0) (nx := 5) rfl ?_
            refine qW.blk rfl ?_
            refine qv_iconst (v := (-14)) rfl ?_
            refine qv_iret (rfl) ?_
            exact hk (uF s 163 0 0) hJ.thr ((qfr.rf s).uF (by omega))
      · refine ⟨.int (-1), A, hA, ?_, ?_⟩
        · intro s Q hJ hk
          refine qP.of (L := [_, _, _, _, _]) (by omega) (hP _ rfl) ms_Desk_row rfl ?_
          show qW X PR (d - 1) (some .int) cd_Desk_row 0 _ _ _ _
          refine qW.blk rfl ?_
          refine qv_aload rfl ?_
          refine qv_iload rfl ?_
          refine qv_virtE (ly_8.rcv _) sg_Desk_shelfAt rfl rfl (r_shelfAt_y hP (by omega) hk8) ?_
          refine qv_astore (L' := [_, _, _, _, _]) rfl ?_
          refine qv_aload rfl ?_
          refine qv_null_f (nx := 1) rfl ?_
          refine qW.blk rfl ?_
          refine qv_iload rfl ?_
          refine qv_iconst (v := 0) rfl ?_
          refine qv_iconst (v := 2) rfl ?_
          refine qv_staticE sg_Desk_within rfl (r_Desk_within hP (by omega) w 0 (nI 2) _) ?_
          refine qv_if_eq_f (bI_ne.mpr (w2)) (nx := 2) rfl ?_
          refine qW.blk rfl ?_
          refine qv_iload rfl ?_
          refine qv_iconst (v := 120) rfl ?_
          refine qv_icmp_le_f (n1) (nx := 3) rfl ?_
          refine qW.blk rfl ?_
          refine qv_iconst (v := (-1)) rfl ?_
          refine qv_iret (rfl) ?_
          exact hk s hJ (cfr.rf s)
        · intro s Q hJ hk
          refine qP.of (L := [_, _, _, _, _]) (by omega) (hP _ rfl) ms_Model_row rfl ?_
          show qW X PR (d - 1) (some .int) cd_Model_row 0 _ _ _ _
          refine qW.blk rfl ?_
          refine qv_aload rfl ?_
          refine qv_iconst (v := 0) rfl ?_
          refine qv_pi ly_163 ⟨rfl, rfl, rfl⟩ (rfl) ?_
          refine qv_iload rfl ?_
          refine qv_iconst (v := 0) rfl ?_
          refine qv_iconst (v := 7) rfl ?_
          refine qv_staticE sg_Model_in rfl (r_Model_in hP (by omega) (nI k) (nI 0) (nI 7) _) ?_
          refine qv_if_eq_f (bI_ne.mpr (nI7in hk8)) (nx := 1) rfl ?_
          refine qW.blk rfl ?_
          refine qv_iload rfl ?_
          refine qv_iconst (v := 0) rfl ?_
          refine qv_iconst (v := 2) rfl ?_
          refine qv_staticE sg_Model_in rfl (r_Model_in hP (by omega) w (nI 0) (nI 2) _) ?_
          refine qv_if_eq_f (bI_ne.mpr (w2)) (nx := 2) rfl ?_
          refine qW.blk rfl ?_
          refine qv_iload rfl ?_
          refine qv_iconst (v := 120) rfl ?_
          refine qv_icmp_le_f (n1) (nx := 3) rfl ?_
          refine qW.blk rfl ?_
          refine qv_iconst (v := (-1)) rfl ?_
          refine qv_iret (rfl) ?_
          exact hk (uF s 163 0 0) hJ.thr ((qfr.rf s).uF (by omega))
    · refine ⟨.int (-1), A, hA, ?_, ?_⟩
      · intro s Q hJ hk
        refine qP.of (L := [_, _, _, _, _]) (by omega) (hP _ rfl) ms_Desk_row rfl ?_
        show qW X PR (d - 1) (some .int) cd_Desk_row 0 _ _ _ _
        refine qW.blk rfl ?_
        refine qv_aload rfl ?_
        refine qv_iload rfl ?_
        refine qv_virtE (ly_8.rcv _) sg_Desk_shelfAt rfl rfl (r_shelfAt_y hP (by omega) hk8) ?_
        refine qv_astore (L' := [_, _, _, _, _]) rfl ?_
        refine qv_aload rfl ?_
        refine qv_null_f (nx := 1) rfl ?_
        refine qW.blk rfl ?_
        refine qv_iload rfl ?_
        refine qv_iconst (v := 0) rfl ?_
        refine qv_iconst (v := 2) rfl ?_
        refine qv_staticE sg_Desk_within rfl (r_Desk_within hP (by omega) w 0 (nI 2) _) ?_
        refine qv_if_eq_t (bI_f (w2)) (tgt := 3) rfl ?_
        refine qW.blk rfl ?_
        refine qv_iconst (v := (-1)) rfl ?_
        refine qv_iret (rfl) ?_
        exact hk s hJ (cfr.rf s)
      · intro s Q hJ hk
        refine qP.of (L := [_, _, _, _, _]) (by omega) (hP _ rfl) ms_Model_row rfl ?_
        show qW X PR (d - 1) (some .int) cd_Model_row 0 _ _ _ _
        refine qW.blk rfl ?_
        refine qv_aload rfl ?_
        refine qv_iconst (v := 0) rfl ?_
        refine qv_pi ly_163 ⟨rfl, rfl, rfl⟩ (rfl) ?_
        refine qv_iload rfl ?_
        refine qv_iconst (v := 0) rfl ?_
        refine qv_iconst (v := 7) rfl ?_
        refine qv_staticE sg_Model_in rfl (r_Model_in hP (by omega) (nI k) (nI 0) (nI 7) _) ?_
        refine qv_if_eq_f (bI_ne.mpr (nI7in hk8)) (nx := 1) rfl ?_
        refine qW.blk rfl ?_
        refine qv_iload rfl ?_
        refine qv_iconst (v := 0) rfl ?_
        refine qv_iconst (v := 2) rfl ?_
        refine qv_staticE sg_Model_in rfl (r_Model_in hP (by omega) w (nI 0) (nI 2) _) ?_
        refine qv_if_eq_t (bI_f (w2)) (tgt := 3) rfl ?_
        refine qW.blk rfl ?_
        refine qv_iconst (v := (-1)) rfl ?_
        refine qv_iret (rfl) ?_
        exact hk (uF s 163 0 0) hJ.thr ((qfr.rf s).uF (by omega))
  · refine ⟨.int (-1), A, hA, ?_, ?_⟩
    · intro s Q hJ hk
      refine qP.of (L := [_, _, _, _, _]) (by omega) (hP _ rfl) ms_Desk_row rfl ?_
      show qW X PR (d - 1) (some .int) cd_Desk_row 0 _ _ _ _
      refine qW.blk rfl ?_
      refine qv_aload rfl ?_
      refine qv_iload rfl ?_
      refine qv_virtE (ly_8.rcv _) sg_Desk_shelfAt rfl rfl (r_shelfAt_n hP (by omega) hn) ?_
      refine qv_astoreN (L' := [_, _, _, _, _]) rfl ?_
      refine qv_aloadN rfl ?_
      refine qv_null_t (tgt := 3) rfl ?_
      refine qW.blk rfl ?_
      refine qv_iconst (v := (-1)) rfl ?_
      refine qv_iret (rfl) ?_
      exact hk s hJ (cfr.rf s)
    · intro s Q hJ hk
      refine qP.of (L := [_, _, _, _, _]) (by omega) (hP _ rfl) ms_Model_row rfl ?_
      show qW X PR (d - 1) (some .int) cd_Model_row 0 _ _ _ _
      refine qW.blk rfl ?_
      refine qv_aload rfl ?_
      refine qv_iconst (v := 0) rfl ?_
      refine qv_pi ly_163 ⟨rfl, rfl, rfl⟩ (rfl) ?_
      refine qv_iload rfl ?_
      refine qv_iconst (v := 0) rfl ?_
      refine qv_iconst (v := 7) rfl ?_
      refine qv_staticE sg_Model_in rfl (r_Model_in hP (by omega) a 0 (nI 7) _) ?_
      refine qv_if_eq_t (bI_f (not7 hn)) (tgt := 3) rfl ?_
      refine qW.blk rfl ?_
      refine qv_iconst (v := (-1)) rfl ?_
      refine qv_iret (rfl) ?_
      exact hk (uF s 163 0 0) hJ.thr ((qfr.rf s).uF (by omega))
/-- the lowest bits -/
def lowB (so : Nat) (v : Int32) : Int32 := if so = 0 then v.toInt8.toInt32 else if so = 1 then v.toInt16.toInt32 else v
theorem lowB_0 (v : Int32) : -128 ≤ (lowB 0 v).toInt ∧ (lowB 0 v).toInt ≤ 127 := by
  show -128 ≤ (v.toInt8.toInt32).toInt ∧ (v.toInt8.toInt32).toInt ≤ 127
  rw [Int8.toInt_toInt32]
  have h1 := Int8.le_toInt v.toInt8
  have h2 := Int8.toInt_lt v.toInt8
  omega
theorem w_lowestBits (hP : pm_np PR) {d : Nat} (hd : 1 ≤ d) {s : QST} {Q : QPost} {k so : Nat} (hk8 : k < 8) (h1 : qF s (123 + 5 * k) 1 = nI so) (hs : so ≤ 2) (v : Int32) (hk : Q (some (.int (lowB so v))) s) : qP X PR d 101 [.ref (123 + 5 * k), .int v] s Q := by
  refine qP.of (L := [_, _]) (by omega) (hP _ rfl) ms_Shelf_lowestBits rfl ?_
  show qW X PR (d - 1) (some .int) cd_Shelf_lowestBits 0 _ _ _ _
  refine qW.blk rfl ?_
  refine qv_aload rfl ?_
  refine qv_gi (ly_sh (d := k) (by omega)) ⟨rfl, rfl, rfl⟩ h1 ?_
  rcases (show so = 0 ∨ so = 1 ∨ so = 2 by omega) with rfl | rfl | rfl
  · refine qv_lookup (tgt := 1) rfl ?_
    refine qW.blk rfl ?_
    refine qv_iload rfl ?_
    refine qv_i2b ?_
    refine qv_iret (rfl) ?_
    exact hk
  · refine qv_lookup (tgt := 2) rfl ?_
    refine qW.blk rfl ?_
    refine qv_iload rfl ?_
    refine qv_i2s ?_
    refine qv_iret (rfl) ?_
    exact hk
  · refine qv_lookup (tgt := 3) rfl ?_
    refine qW.blk rfl ?_
    refine qv_iload rfl ?_
    refine qv_iret (rfl) ?_
    exact hk
theorem w_M_narrowed (hP : pm_np PR) {d : Nat} (hd : 1 ≤ d) {s : QST} {Q : QPost} {so : Nat} (hs : so ≤ 2) (v : Int32) (hk : Q (some (.long (lowB so v).toInt64)) s) : qP X PR d 256 [.int v, .int (nI so)] s Q := by
  refine qP.of (L := [_, _]) (by omega) (hP _ rfl) ms_Model_narrowed rfl ?_
  show qW X PR (d - 1) (some .long) cd_Model_narrowed 0 _ _ _ _
  rcases (show so = 0 ∨ so = 1 ∨ so = 2 by omega) with rfl | rfl | rfl
  · refine qW.blk rfl ?_
    refine qv_iload rfl ?_
    refine qv_if_neNf rfl (by omega) (by omega) (nx := 1) rfl ?_
    refine qW.blk rfl ?_
    refine qv_iload rfl ?_
    refine qv_i2b ?_
    refine qv_i2l ?_
    refine qv_goto (tgt := 5) rfl ?_
    refine qW.blk rfl ?_
    refine qv_lret rfl ?_
    exact hk
  · refine qW.blk rfl ?_
    refine qv_iload rfl ?_
    refine qv_if_neNt rfl (by omega) (by omega) (tgt := 2) rfl ?_
    refine qW.blk rfl ?_
    refine qv_iload rfl ?_
    refine qv_iconst (v := 1) rfl ?_
    refine qv_icmp_neNf (q := 1) rfl rfl (by omega) (by omega) (by omega) (nx := 3) rfl ?_
    refine qW.blk rfl ?_
    refine qv_iload rfl ?_
    refine qv_i2s ?_
    refine qv_i2l ?_
    refine qv_goto (tgt := 5) rfl ?_
    refine qW.blk rfl ?_
    refine qv_lret rfl ?_
    exact hk
  · refine qW.blk rfl ?_
    refine qv_iload rfl ?_
    refine qv_if_neNt rfl (by omega) (by omega) (tgt := 2) rfl ?_
    refine qW.blk rfl ?_
    refine qv_iload rfl ?_
    refine qv_iconst (v := 1) rfl ?_
    refine qv_icmp_neNt (q := 1) rfl rfl (by omega) (by omega) (by omega) (tgt := 4) rfl ?_
    refine qW.blk rfl ?_
    refine qv_iload rfl ?_
    refine qv_i2l ?_
    refine qv_nil (nx := 5) rfl ?_
    refine qW.blk rfl ?_
    refine qv_lret rfl ?_
    exact hk
theorem Sim_put (hP : pm_np PR) (a b v : Int32) : Sim X PR 157 254 [.int a, .int b, .int v] := by
  intro d A hd hA
  rcases pl_of a 8 with ⟨k, hk8, rfl⟩ | hn
  · obtain ⟨s1, s2, s3, s4, s5⟩ := hA.2.2.2.2 k hk8
    by_cases h2 : (aS A k).1 = 2
    · have r0 : refU (aS A k).1 2 = nI 0 := by rw [h2]; rfl
      rcases pl_of b (aS A k).2.2.1 with ⟨i, hi, rfl⟩ | hb
      · refine ⟨.int 0, aSh A k (2, (aS A k).2.1, (aS A k).2.2.1, updN (aS A k).2.2.2.1 i (lowB (aS A k).2.1 v), (aS A k).2.2.2.2), hA.sh ⟨by show 2 ≤ 2; decide, s2, s3, fun _ h0 j hj => ?_, fun z => by cases z⟩, ?_, ?_⟩
        · show -128 ≤ (updN (aS A k).2.2.2.1 i (lowB (aS A k).2.1 v) j).toInt ∧ (updN (aS A k).2.2.2.1 i (lowB (aS A k).2.1 v) j).toInt ≤ 127
          by_cases e : j = i
          · subst e
            rw [updN_s, show (aS A k).2.1 = 0 from h0]
            exact lowB_0 v
          · rw [updN_n e]; exact s4 h2 h0 j hj
        · intro s Q hJ hk
          obtain ⟨c1, c2, c3⟩ := hJ.2.2.2.2 k hk8
          obtain ⟨g1, g2, g3⟩ := c2 h2
          refine qP.of (L := [_, _, _, _, _, _]) (by omega) (hP _ rfl) ms_Desk_put rfl ?_
          show qW X PR (d - 1) (some .int) cd_Desk_put 0 _ _ _ _
          refine qW.blk rfl ?_
          refine qv_aload rfl ?_
          refine qv_iload rfl ?_
          refine qv_virtE (ly_8.rcv _) sg_Desk_shelfAt rfl rfl (r_shelfAt_y hP (by omega) hk8) ?_
          refine qv_astore (L' := [_, _, _, _, _, _]) rfl ?_
          refine qv_aload rfl ?_
          refine qv_iconst (v := 2) rfl ?_
          refine qv_staticE sg_Desk_refusalOf rfl (r_rowRefusal hP (by omega) hk8 c1 s1) ?_
          refine qv_istore (L' := [_, _, _, _, _, _]) rfl ?_
          refine qv_aload rfl ?_
          refine qv_null_f (nx := 1) rfl ?_
          refine qW.blk rfl ?_
          refine qv_iload rfl ?_
          refine qv_if_eq_t (r0) (tgt := 3) rfl ?_
          refine qW.blk rfl ?_
          refine qv_iload rfl ?_
          refine qv_iconst (v := 0) rfl ?_
          refine qv_aload rfl ?_
          refine qv_gi (ly_sh (d := k) (by omega)) ⟨rfl, rfl, rfl⟩ (g2) ?_
          refine qv_iconst (v := 1) rfl ?_
          refine qv_isub ?_
          refine qv_staticE sg_Desk_within rfl (r_Desk_within hP (by omega) (nI i) (nI 0) (nI (aS A k).2.2.1 - 1) _) ?_
          refine qv_if_ne_t (bI_ne.mpr ((in_nI1 (by omega)).mpr ⟨i, hi, rfl⟩)) (tgt := 5) rfl ?_
          refine qW.blk rfl ?_
          refine qv_aload rfl ?_
          refine qv_gr (ly_sh (d := k) (by omega)) ⟨rfl, rfl, rfl⟩ (by omega) ?_
          refine qv_iload rfl ?_
          refine qv_aload rfl ?_
          refine qv_iload rfl ?_
          refine qv_virt ((ly_sh (d := k) (by omega)).rcv _) sg_Shelf_lowestBits rfl rfl (w_lowestBits hP (by omega) hk8 g1 s2 v ?_) 
          refine qv_is (ly_shc (d := k) (by omega)) rfl (by omega) (by decide) ?_
          refine qv_iconst (v := 0) rfl ?_
          refine qv_iret (rfl) ?_
          have F : qfr (123 + 5 * k) (127 + 5 * k) s (uE s (123 + 5 * k + 4) i (lowB (aS A k).2.1 v)) := (qfr.rf s).uE (by omega)
          refine hk _ (hJ.sh hA hk8 F ⟨?_, fun _ => ⟨g1, g2, fun j hj => ?_⟩, fun z => (by cases z)⟩) (F.c (by omega) (by omega))
          · show qF s (123 + 5 * k) 0 = nI 2
            rw [c1, h2]
          · show _ = updN (aS A k).2.2.2.1 i (lowB (aS A k).2.1 v) j
            by_cases e : j = i
            · subst e; rw [updN_s, qE_uEs]
            · rw [updN_n e, qE_uEk e]; exact g3 j hj
        · intro s Q hJ hk
          obtain ⟨c1, c2, c3⟩ := hJ.2.2.2.2.1 k hk8
          obtain ⟨g1, g2, g3⟩ := c2 h2
          refine qP.of (L := [_, _, _, _, _]) (by omega) (hP _ rfl) ms_Model_put rfl ?_
          show qW X PR (d - 1) (some .int) cd_Model_put 0 _ _ _ _
          refine qW.blk rfl ?_
          refine qv_aload rfl ?_
          refine qv_iconst (v := 0) rfl ?_
          refine qv_pi ly_163 ⟨rfl, rfl, rfl⟩ (rfl) ?_
          refine qv_aload rfl ?_
          refine qv_iload rfl ?_
          refine qv_virt (ly_163.rcv _) sg_Model_wrongRow rfl rfl (w_M_wrongRow hP (by omega) hk8 c1 s1 ?_) 
          refine qv_istore (L' := [_, _, _, _, _]) rfl ?_
          refine qv_iload rfl ?_
          refine qv_if_ge_t (by rw [r0]; decide) (tgt := 2) rfl ?_
          refine qW.blk rfl ?_
          refine qv_iload rfl ?_
          refine qv_iconst (v := 0) rfl ?_
          refine qv_aload rfl ?_
          refine qv_gr ly_163 ⟨rfl, rfl, rfl⟩ (by omega) ?_
          refine qv_iload rfl ?_
          refine qv_ia ly_200 rfl (by omega) (by decide) (g2) ?_
          refine qv_iconst (v := 1) rfl ?_
          refine qv_isub ?_
          refine qv_staticE sg_Model_in rfl (r_Model_in hP (by omega) (nI i) (nI 0) (nI (aS A k).2.2.1 - 1) _) ?_
          refine qv_if_ne_t (bI_ne.mpr ((in_nI1 (by omega)).mpr ⟨i, hi, rfl⟩)) (tgt := 4) rfl ?_
          refine qW.blk rfl ?_
          refine qv_aload rfl ?_
          refine qv_gr ly_163 ⟨rfl, rfl, rfl⟩ (by omega) ?_
          refine qv_iconst (v := 120) rfl ?_
          refine qv_iload rfl ?_
          refine qv_imulN (p := 120) rfl rfl ?_
          refine qv_iload rfl ?_
          refine qv_iaddN rfl rfl ?_
          refine qv_iload rfl ?_
          refine qv_aload rfl ?_
          refine qv_gr ly_163 ⟨rfl, rfl, rfl⟩ (by omega) ?_
          refine qv_iload rfl ?_
          refine qv_ia ly_199 rfl (by omega) (by decide) (g1) ?_
          refine qv_static sg_Model_narrowed rfl (w_M_narrowed hP (by omega) s2 v ?_) 
          refine qv_ls ly_201 rfl (by omega) (by decide) ?_
          refine qv_iconst (v := 0) rfl ?_
          refine qv_iret (rfl) ?_
          refine hk _ (hJ.sh ((rshf.rf k s).thr.sL (by omega)) ⟨?_, fun _ => ⟨g1, g2, fun j hj => ?_⟩, fun z => (by cases z)⟩) (((qfr.rf s).uF (by omega)).uL (by omega))
          · show qE s 196 k = nI 2
            rw [c1, h2]
          · show _ = (updN (aS A k).2.2.2.1 i (lowB (aS A k).2.1 v) j).toInt64
            by_cases e : j = i
            · subst e; rw [updN_s, qL_uLs]
            · rw [updN_n e, qL_uLk (by omega)]; exact g3 j hj
      · have hb' : ¬ (0 ≤ b ∧ b ≤ nI (aS A k).2.2.1 - 1) := fun z => hb ((in_nI1 (by omega)).mp z)
        refine ⟨.int (-13), A, hA, ?_, ?_⟩
        · intro s Q hJ hk
          obtain ⟨c1, c2, c3⟩ := hJ.2.2.2.2 k hk8
          obtain ⟨g1, g2, g3⟩ := c2 h2
          refine qP.of (L := [_, _, _, _, _, _]) (by omega) (hP _ rfl) ms_Desk_put rfl ?_
          show qW X PR (d - 1) (some .int) cd_Desk_put 0 _ _ _ _
          refine qW.blk rfl ?_
          refine qv_aload rfl ?_
          refine qv_iload rfl ?_
          refine qv_virtE (ly_8.rcv _) sg_Desk_shelfAt rfl rfl (r_shelfAt_y hP (by omega) hk8) ?_
          refine qv_astore (L' := [_, _, _, _, _, _]) rfl ?_
          refine qv_aload rfl ?_
          refine qv_iconst (v := 2) rfl ?_
          refine qv_staticE sg_Desk_refusalOf rfl (r_rowRefusal hP (by omega) hk8 c1 s1) ?_
          refine qv_istore (L' := [_, _, _, _, _, _]) rfl ?_
          refine qv_aload rfl ?_
          refine qv_null_f (nx := 1) rfl ?_
          refine qW.blk rfl ?_
          refine qv_iload rfl ?_
          refine qv_if_eq_t (r0) (tgt := 3) rfl ?_
          refine qW.blk rfl ?_
          refine qv_iload rfl ?_
          refine qv_iconst (v := 0) rfl ?_
          refine qv_aload rfl ?_
          refine qv_gi (ly_sh (d := k) (by omega)) ⟨rfl, rfl, rfl⟩ (g2) ?_
          refine qv_iconst (v := 1) rfl ?_
          refine qv_isub ?_
          refine qv_staticE sg_Desk_within rfl (r_Desk_within hP (by omega) b (nI 0) (nI (aS A k).2.2.1 - 1) _) ?_
          refine qv_if_ne_f (fun zq => zq (bI_f (hb'))) (nx := 4) rfl ?_
          refine qW.blk rfl ?_
          refine qv_iconst (v := (-13)) rfl ?_
          refine qv_iret (rfl) ?_
          exact hk s hJ (cfr.rf s)
        · intro s Q hJ hk
          obtain ⟨c1, c2, c3⟩ := hJ.2.2.2.2.1 k hk8
          obtain ⟨g1, g2, g3⟩ := c2 h2
          refine qP.of (L := [_, _, _, _, _]) (by omega) (hP _ rfl) ms_Model_put rfl ?_
          show qW X PR (d - 1) (some .int) cd_Model_put 0 _ _ _ _
          refine qW.blk rfl ?_
          refine qv_aload rfl ?_
          refine qv_iconst (v := 0) rfl ?_
          refine qv_pi ly_163 ⟨rfl, rfl, rfl⟩ (rfl) ?_
          refine qv_aload rfl ?_
          refine qv_iload rfl ?_
          refine qv_virt (ly_163.rcv _) sg_Model_wrongRow rfl rfl (w_M_wrongRow hP (by omega) hk8 c1 s1 ?_) 
          refine qv_istore (L' := [_, _, _, _, _]) rfl ?_
          refine qv_iload rfl ?_
          refine qv_if_ge_t (by rw [r0]; decide) (tgt := 2) rfl ?_
          refine qW.blk rfl ?_
          refine qv_iload rfl ?_
          refine qv_iconst (v := 0) rfl ?_
          refine qv_aload rfl ?_
          refine qv_gr ly_163 ⟨rfl, rfl, rfl⟩ (by omega) ?_
          refine qv_iload rfl ?_
          refine qv_ia ly_200 rfl (by omega) (by decide) (g2) ?_
          refine qv_iconst (v := 1) rfl ?_
          refine qv_isub ?_
          refine qv_staticE sg_Model_in rfl (r_Model_in hP (by omega) b (nI 0) (nI (aS A k).2.2.1 - 1) _) ?_
          refine qv_if_ne_f (fun zq => zq (bI_f (hb'))) (nx := 3) rfl ?_
          refine qW.blk rfl ?_
          refine qv_iconst (v := (-13)) rfl ?_
          refine qv_iret (rfl) ?_
          exact hk (uF s 163 0 0) hJ.thr ((qfr.rf s).uF (by omega))
    · refine ⟨.int (refU (aS A k).1 2), A, hA, ?_, ?_⟩
      · intro s Q hJ hk
        obtain ⟨c1, c2, c3⟩ := hJ.2.2.2.2 k hk8
        have r0 : ¬ refU (aS A k).1 2 = 0 := by unfold refU; rw [if_neg h2]; split <;> decide
        refine qP.of (L := [_, _, _, _, _, _]) (by omega) (hP _ rfl) ms_Desk_put rfl ?_
        show qW X PR (d - 1) (some .int) cd_Desk_put 0 _ _ _ _
        refine qW.blk rfl ?_
        refine qv_aload rfl ?_
        refine qv_iload rfl ?_
        refine qv_virtE (ly_8.rcv _) sg_Desk_shelfAt rfl rfl (r_shelfAt_y hP (by omega) hk8) ?_
        refine qv_astore (L' := [_, _, _, _, _, _]) rfl ?_
        refine qv_aload rfl ?_
        refine qv_iconst (v := 2) rfl ?_
        refine qv_staticE sg_Desk_refusalOf rfl (r_rowRefusal hP (by omega) hk8 c1 s1) ?_
        refine qv_istore (L' := [_, _, _, _, _, _]) rfl ?_
        refine qv_aload rfl ?_
        refine qv_null_f (nx := 1) rfl ?_
        refine qW.blk rfl ?_
        refine qv_iload rfl ?_
        refine qv_if_eq_f (r0) (nx := 2) rfl ?_
        refine qW.blk rfl ?_
        refine qv_iload rfl ?_
        refine qv_iret (rfl) ?_
        exact hk s hJ (cfr.rf s)
      · intro s Q hJ hk
        obtain ⟨c1, c2, c3⟩ := hJ.2.2.2.2.1 k hk8
        have r0 : ¬ 0 ≤ refU (aS A k).1 2 := by unfold refU; rw [if_neg h2]; split <;> decide
        refine qP.of (L := [_, _, _, _, _]) (by omega) (hP _ rfl) ms_Model_put rfl ?_
        show qW X PR (d - 1) (some .int) cd_Model_put 0 _ _ _ _
        refine qW.blk rfl ?_
        refine qv_aload rfl ?_
        refine qv_iconst (v := 0) rfl ?_
        refine qv_pi ly_163 ⟨rfl, rfl, rfl⟩ (rfl) ?_
        refine qv_aload rfl ?_
        refine qv_iload rfl ?_
        refine qv_virt (ly_163.rcv _) sg_Model_wrongRow rfl rfl (w_M_wrongRow hP (by omega) hk8 c1 s1 ?_) 
        refine qv_istore (L' := [_, _, _, _, _]) rfl ?_
        refine qv_iload rfl ?_
        refine qv_if_ge_f (r0) (nx := 1) rfl ?_
        refine qW.blk rfl ?_
        refine qv_iload rfl ?_
        refine qv_iret (rfl) ?_
        exact hk (uF s 163 0 0) hJ.thr ((qfr.rf s).uF (by omega))
  · refine ⟨.int (-1), A, hA, ?_, ?_⟩
    · intro s Q hJ hk
      refine qP.of (L := [_, _, _, _, _, _]) (by omega) (hP _ rfl) ms_Desk_put rfl ?_
      show qW X PR (d - 1) (some .int) cd_Desk_put 0 _ _ _ _
      refine qW.blk rfl ?_
      refine qv_aload rfl ?_
      refine qv_iload rfl ?_
      refine qv_virtE (ly_8.rcv _) sg_Desk_shelfAt rfl rfl (r_shelfAt_n hP (by omega) hn) ?_
      refine qv_astoreN (L' := [_, _, _, _, _, _]) rfl ?_
      refine qv_aloadN rfl ?_
      refine qv_iconst (v := 2) rfl ?_
      refine qv_staticE sg_Desk_refusalOf rfl (r_refusalNull hP (by omega) _) ?_
      refine qv_istore (L' := [_, _, _, _, _, _]) rfl ?_
      refine qv_aloadN rfl ?_
      refine qv_null_t (tgt := 2) rfl ?_
      refine qW.blk rfl ?_
      refine qv_iload rfl ?_
      refine qv_iret (rfl) ?_
      exact hk s hJ (cfr.rf s)
    · intro s Q hJ hk
      have w : ∀ (d : Nat) (Q : QPost), 2 ≤ d → Q (some (.int (-1))) (uF s 163 0 0) → qP X PR d 255 [.ref 163, .int a] (uF s 163 0 0) Q := by
        intro d Q hd hk
        refine qP.of (L := [_, _]) (by omega) (hP _ rfl) ms_Model_wrongRow rfl ?_
        show qW X PR (d - 1) (some .int) cd_Model_wrongRow 0 _ _ _ _
        refine qW.blk rfl ?_
        refine qv_iload rfl ?_
        refine qv_iconst (v := 0) rfl ?_
        refine qv_iconst (v := 7) rfl ?_
        refine qv_staticE sg_Model_in rfl (r_Model_in hP (by omega) a 0 (nI 7) _) ?_
        refine qv_if_ne_f (fun zq => zq (bI_f (not7 hn))) (nx := 1) rfl ?_
        refine qW.blk rfl ?_
        refine qv_iconst (v := (-1)) rfl ?_
        refine qv_goto (tgt := 7) rfl ?_
        refine qW.blk rfl ?_
        refine qv_iret (rfl) ?_
        exact hk
      refine qP.of (L := [_, _, _, _, _]) (by omega) (hP _ rfl) ms_Model_put rfl ?_
      show qW X PR (d - 1) (some .int) cd_Model_put 0 _ _ _ _
      refine qW.blk rfl ?_
      refine qv_aload rfl ?_
      refine qv_iconst (v := 0) rfl ?_
      refine qv_pi ly_163 ⟨rfl, rfl, rfl⟩ (rfl) ?_
      refine qv_aload rfl ?_
      refine qv_iload rfl ?_
      refine qv_virt (ly_163.rcv _) sg_Model_wrongRow rfl rfl (w _ _ (by omega) ?_) 
      refine qv_istore (L' := [_, _, _, _, _]) rfl ?_
      refine qv_iload rfl ?_
      refine qv_if_ge_f (by decide) (nx := 1) rfl ?_
      refine qW.blk rfl ?_
      refine qv_iload rfl ?_
      refine qv_iret (rfl) ?_
      exact hk (uF s 163 0 0) hJ.thr ((qfr.rf s).uF (by omega))
end
