/-! image, restore, keep, row are alike -/
section
variable {X : pm_X} {PR : pm_P}
theorem cTD.obj {R : List va_E} {T : Nat} {D : TD} (h : cTD R T D) : 204 ≤ T ∧ ∃ fs, R[T - 204]? = some (.inr (8, fs)) := by
  obtain ⟨w, sc, pr, hT, -⟩ := h
  exact ⟨hT.1, _, hT.2.1⟩
theorem Sim_image (hP : pm_np PR) : Sim X PR 152 248 [] := by
  intro d A hd hA
  have hC := hA.1
  have hM := hC.2.2.2.1
  refine ⟨.int (nI (aC A 2)), (aC A, aC A, 1, aT A, aS A), ⟨hC, Nat.le_refl _, fun _ => ⟨hC, Nat.le_refl _⟩, hA.2.2.2.1, hA.2.2.2.2⟩, ?_, ?_⟩
  · intro s Q hJ hk
    refine qP.of (L := [_]) (by omega) (hP _ rfl) ms_Desk_image rfl ?_
    show qW X PR (d - 1) (some .int) cd_Desk_image 0 _ _ _ _
    refine qW.blk rfl ?_
    refine qv_aload rfl ?_
    refine qv_gr ly_8 ⟨rfl, rfl, rfl⟩ (by omega) ?_
    refine qv_aload rfl ?_
    refine qv_gr ly_8 ⟨rfl, rfl, rfl⟩ (by omega) ?_
    refine qv_virt (ly_39.rcv _) sg_Chamber_takeOver rfl rfl (w_takeOver_39 hP (by omega) hJ.1 hM hC.2.2.2.2.1 (fun t ht => by obtain ⟨T, t1, t2⟩ := hJ.2.2.2.1 t ht; obtain ⟨t3, fs, t4⟩ := t2.obj; exact ⟨T, fs, t1, t3, t4⟩) (fun s1 F1 g1 g2 => ?_)) 
    refine qv_aload rfl ?_
    refine qv_iconst (v := 1) rfl ?_
    refine qv_pi ly_8 ⟨rfl, rfl, rfl⟩ (rfl) ?_
    refine qv_aload rfl ?_
    refine qv_gr ly_8 ⟨rfl, rfl, rfl⟩ (by omega) ?_
    refine qv_gi ly_9 ⟨rfl, rfl, rfl⟩ ((F1.f (by omega)).trans hJ.1.2.2.1) ?_
    refine qv_iret (rfl) ?_
    have hx : qR s1 = qR s := F1.R
    refine hk (uF s1 8 2 1) ⟨?_, ?_, fun _ => ⟨?_, fun t ht => ?_⟩, fun t ht => ?_, fun d hd => ?_⟩ ((F1.mono (lo' := 8) (hi' := 162) (by omega) (by omega)).uF (by omega) |>.c (by omega) (by omega))
    · exact (hJ.1.cg F1 hM (by omega)).cg ((qfr.rf (lo := 8) (hi := 8) s1).uF (by omega)) hM (by omega)
    · rw [qF_uFs]; rfl
    · exact g1.cg ((qfr.rf (lo := 8) (hi := 8) s1).uF (by omega)) hM (by omega)
    · show qT s1 41 t = qT s1 11 t
      rw [g2 t ht, F1.T (by omega)]
    · show ∃ T, qT s1 11 t = some T ∧ cTD (qR s1) T (aT A t)
      rw [F1.T (by omega), hx]
      exact hJ.2.2.2.1 t ht
    · refine (hJ.2.2.2.2 d hd).cg ?_ ?_ ?_
      · rw [qF_uFc (by omega), F1.F (by omega)]
      · show qE s1 _ = _
        rw [F1.E (by omega)]
      · rw [qF_uFc (by omega), F1.F (by omega)]
  · intro s Q hJ hk
    refine qP.of (L := [_, _]) (by omega) (hP _ rfl) ms_Model_image rfl ?_
    show qW X PR (d - 1) (some .int) cd_Model_image 0 _ _ _ _
    have loop : ∀ (k j : Nat) (s1 : QST), j + k = 200 → qfr 163 202 s s1 → (∀ c, c ≠ 165 → qE s1 c = qE s c) → qL s1 201 = qL s 201 → (∀ q, q ≠ 0 → q ≠ 3 → qF s1 163 q = qF s 163 q) → qF s1 163 3 = 1 → (∀ i, i < j → qE s1 165 i = nI (aC A i)) → qW X PR (d - 1) (some .int) cd_Model_image 1 [some (.ref (163)), some (.int (nI j))] [] s1 Q := by
      intro k
      induction k with
      | zero =>
        intro j s1 hj F1 g1 g2 g3 g4 g5
        have e : j = 200 := by omega
        subst e
        refine qW.blk rfl ?_
        refine qv_iload rfl ?_
        refine qv_iconst (v := 200) rfl ?_
        refine qv_icmp_geNt (q := 200) rfl rfl (by omega) (by omega) (by omega) (tgt := 3) rfl ?_
        refine qW.blk rfl ?_
        refine qv_aload rfl ?_
        refine qv_gr ly_163 ⟨rfl, rfl, rfl⟩ (by omega) ?_
        refine qv_iconst (v := 2) rfl ?_
        refine qv_ia (j := 2) ly_164 rfl (by omega) (by decide) ((congrFun (g1 164 (by omega)) 2).trans (hJ.1 2 (by decide))) ?_
        refine qv_iret (rfl) ?_
        obtain ⟨h1, h2, h3, h4, h5, n1, n2, n3, n4, n5, n6⟩ := hJ
        exact hk s1 ⟨h1.cg (g1 _ (by omega)), fun _ => g5, g4, fun t ht => (h4 t ht).cg (fun c hc => g1 c (by omega)), fun d hd => (h5 d hd).cg (fun c hc => g1 c (by omega)) g2, by rw [g3 28 (by omega) (by omega)]; exact n1, by rw [g3 29 (by omega) (by omega)]; exact n2, by rw [g3 30 (by omega) (by omega)]; exact n3, by rw [g3 31 (by omega) (by omega)]; exact n4, by rw [g3 33 (by omega) (by omega)]; exact n5, by rw [g3 35 (by omega) (by omega)]; exact n6⟩ F1
      | succ k ih =>
        intro j s1 hj F1 g1 g2 g3 g4 g5
        refine qW.blk rfl ?_
        refine qv_iload rfl ?_
        refine qv_iconst (v := 200) rfl ?_
        refine qv_icmp_geNf (q := 200) rfl rfl (by omega) (by omega) (by omega) (nx := 2) rfl ?_
        refine qW.blk rfl ?_
        refine qv_aload rfl ?_
        refine qv_gr ly_163 ⟨rfl, rfl, rfl⟩ (by omega) ?_
        refine qv_iload rfl ?_
        refine qv_aload rfl ?_
        refine qv_gr ly_163 ⟨rfl, rfl, rfl⟩ (by omega) ?_
        refine qv_iload rfl ?_
        refine qv_ia ly_164 rfl (by omega) (by decide) ((congrFun (g1 164 (by omega)) j).trans (hJ.1 j (by omega))) ?_
        refine qv_is ly_165 rfl (by omega) (by decide) ?_
        refine qv_iinc (L' := [_, _]) rfl (nI_succ _).symm rfl ?_
        refine qv_goto (tgt := 1) rfl ?_
        refine ih (j + 1) _ (by omega) (F1.uE (by omega)) (fun c hc => (qE_uEc hc).trans (g1 c hc)) g2 g3 g4 (fun i hi => ?_)
        by_cases e : i = j
        · subst e; rw [qE_uEs]
        · rw [qE_uEk e]; exact g5 i (by omega)
    refine qW.blk rfl ?_
    refine qv_aload rfl ?_
    refine qv_iconst (v := 0) rfl ?_
    refine qv_pi ly_163 ⟨rfl, rfl, rfl⟩ (rfl) ?_
    refine qv_aload rfl ?_
    refine qv_iconst (v := 1) rfl ?_
    refine qv_pi ly_163 ⟨rfl, rfl, rfl⟩ (rfl) ?_
    refine qv_iconst (v := 0) rfl ?_
    refine qv_istore (L' := [_, _]) rfl ?_
    refine qv_nil (nx := 1) rfl ?_
    exact loop 200 0 _ (by omega) (((qfr.rf s).uF (by omega)).uF (by omega)) (fun _ _ => rfl) rfl (fun q h1 h2 => by rw [qF_uFk h2, qF_uFk h1]) (by rw [qF_uFs]) (fun i hi => by omega)
theorem Sim_restore (hP : pm_np PR) : Sim X PR 153 249 [] := by
  intro d A hd hA
  by_cases hI : aI A = 1
  · obtain ⟨hCP, hP3⟩ := hA.2.2.1 hI
    have hMP := hCP.2.2.2.1
    have hM := hA.1.2.2.2.1
    refine ⟨.int (nI (aP A 2)), (aP A, A.2), ⟨hCP, hA.2.1, fun z => ⟨hCP, Nat.le_refl _⟩, fun t ht => hA.2.2.2.1 t (Nat.lt_of_lt_of_le ht hP3), hA.2.2.2.2⟩, ?_, ?_⟩
    · intro s Q hJ hk
      obtain ⟨hp1, hp2⟩ := hJ.2.2.1 hI
      have hpic : qF s 8 2 = nI 1 := by rw [hJ.2.1, hI]
      refine qP.of (L := [_]) (by omega) (hP _ rfl) ms_Desk_restore rfl ?_
      show qW X PR (d - 1) (some .int) cd_Desk_restore 0 _ _ _ _
      refine qW.blk rfl ?_
      refine qv_aload rfl ?_
      refine qv_gi ly_8 ⟨rfl, rfl, rfl⟩ (hpic) ?_
      refine qv_if_neNt rfl (by omega) (by omega) (tgt := 2) rfl ?_
      refine qW.blk rfl ?_
      refine qv_aload rfl ?_
      refine qv_gr ly_8 ⟨rfl, rfl, rfl⟩ (by omega) ?_
      refine qv_aload rfl ?_
      refine qv_gr ly_8 ⟨rfl, rfl, rfl⟩ (by omega) ?_
      refine qv_virt (ly_9.rcv _) sg_Chamber_takeOver rfl rfl (w_takeOver_9 hP (by omega) hp1 hMP hCP.2.2.2.2.1 (fun t ht => by obtain ⟨T, t1, t2⟩ := hJ.2.2.2.1 t (Nat.lt_of_lt_of_le ht hP3); obtain ⟨t3, fs, t4⟩ := t2.obj; exact ⟨T, fs, (hp2 t ht).trans t1, t3, t4⟩) (fun s1 F1 g1 g2 => ?_)) 
      refine qv_aload rfl ?_
      refine qv_gr ly_8 ⟨rfl, rfl, rfl⟩ (by omega) ?_
      refine qv_gi ly_9 ⟨rfl, rfl, rfl⟩ (g1.2.2.1) ?_
      refine qv_iret (rfl) ?_
      refine hk s1 ⟨g1, ?_, fun z => ⟨?_, fun t ht => ?_⟩, fun t ht => ?_, fun d hd => ?_⟩ (F1.c (by omega) (by omega))
      · rw [F1.f (by omega)]; exact hJ.2.1
      · exact hp1.cg F1 hMP (by omega)
      · show qT s1 41 t = qT s1 11 t
        rw [g2 t ht, F1.T (by omega)]
      · show ∃ T, qT s1 11 t = some T ∧ cTD (qR s1) T (aT A t)
        rw [g2 t ht, hp2 t ht, F1.R]
        exact hJ.2.2.2.1 t (Nat.lt_of_lt_of_le ht hP3)
      · exact (hJ.2.2.2.2 d hd).cg (F1.F (by omega)) (F1.E (by omega)) (F1.F (by omega))
    · intro s Q hJ hk
      have hpic : qF (uF s 163 0 0) 163 3 = nI 1 := by rw [qF_uFk (by omega), hJ.2.2.1, hI]
      have h165 := hJ.2.1 hI
      refine qP.of (L := [_, _]) (by omega) (hP _ rfl) ms_Model_restore rfl ?_
      show qW X PR (d - 1) (some .int) cd_Model_restore 0 _ _ _ _
      have loop : ∀ (k j : Nat) (s1 : QST), j + k = 200 → rst s s1 → (∀ i, i < j → qE s1 164 i = nI (aP A i)) → qW X PR (d - 1) (some .int) cd_Model_restore 3 [some (.ref (163)), some (.int (nI j))] [] s1 Q := by
        intro k
        induction k with
        | zero =>
          intro j s1 hj F1 g5
          have e : j = 200 := by omega
          subst e
          refine qW.blk rfl ?_
          refine qv_iload rfl ?_
          refine qv_iconst (v := 200) rfl ?_
          refine qv_icmp_geNt (q := 200) rfl rfl (by omega) (by omega) (by omega) (tgt := 5) rfl ?_
          refine qW.blk rfl ?_
          refine qv_aload rfl ?_
          refine qv_gr ly_163 ⟨rfl, rfl, rfl⟩ (by omega) ?_
          refine qv_iconst (v := 2) rfl ?_
          refine qv_ia (j := 2) ly_164 rfl (by omega) (by decide) (g5 2 (by decide)) ?_
          refine qv_iret (rfl) ?_
          refine hk s1 ?_ F1.1
          obtain ⟨h1, h2, h3, h4, h5, n1, n2, n3, n4, n5, n6⟩ := hJ
          exact ⟨g5, fun z => (h2 z).cg (F1.2.1 _ (by omega)), by rw [F1.2.2.2 3 (by omega)]; exact h3, fun t ht => (h4 t (Nat.lt_of_lt_of_le ht hP3)).cg (fun c hc => F1.2.1 c (by omega)), fun d hd => (h5 d hd).cg (fun c hc => F1.2.1 c (by omega)) F1.2.2.1, by rw [F1.2.2.2 28 (by omega)]; exact n1, by rw [F1.2.2.2 29 (by omega)]; exact n2, by rw [F1.2.2.2 30 (by omega)]; exact n3, by rw [F1.2.2.2 31 (by omega)]; exact n4, by rw [F1.2.2.2 33 (by omega)]; exact n5, by rw [F1.2.2.2 35 (by omega)]; exact n6⟩
        | succ k ih =>
          intro j s1 hj F1 g5
          refine qW.blk rfl ?_
          refine qv_iload rfl ?_
          refine qv_iconst (v := 200) rfl ?_
          refine qv_icmp_geNf (q := 200) rfl rfl (by omega) (by omega) (by omega) (nx := 4) rfl ?_
          refine qW.blk rfl ?_
          refine qv_aload rfl ?_
          refine qv_gr ly_163 ⟨rfl, rfl, rfl⟩ (by omega) ?_
          refine qv_iload rfl ?_
          refine qv_aload rfl ?_
          refine qv_gr ly_163 ⟨rfl, rfl, rfl⟩ (by omega) ?_
          refine qv_iload rfl ?_
          refine qv_ia ly_165 rfl (by omega) (by decide) ((congrFun (F1.2.1 165 (by omega)) j).trans (h165 j (by omega))) ?_
          refine qv_is ly_164 rfl (by omega) (by decide) ?_
          refine qv_iinc (L' := [_, _]) rfl (nI_succ _).symm rfl ?_
          refine qv_goto (tgt := 3) rfl ?_
          refine ih (j + 1) _ (by omega) F1.sE (fun i hi => ?_)
          by_cases e : i = j
          · subst e; rw [qE_uEs]
          · rw [qE_uEk e]; exact g5 i (by omega)
      refine qW.blk rfl ?_
      refine qv_aload rfl ?_
      refine qv_iconst (v := 0) rfl ?_
      refine qv_pi ly_163 ⟨rfl, rfl, rfl⟩ (rfl) ?_
      refine qv_aload rfl ?_
      refine qv_gi ly_163 ⟨rfl, rfl, rfl⟩ (hpic) ?_
      refine qv_if_neNt rfl (by omega) (by omega) (tgt := 2) rfl ?_
      refine qW.blk rfl ?_
      refine qv_iconst (v := 0) rfl ?_
      refine qv_istore (L' := [_, _]) rfl ?_
      refine qv_nil (nx := 3) rfl ?_
      exact loop 200 0 _ (by omega) (rst.rf s).thr (fun i hi => by omega)
  · have hI0 : aI A = 0 := by have := hA.2.1; omega
    refine ⟨.int (-3), A, hA, ?_, ?_⟩
    · intro s Q hJ hk
      have hpic : qF s 8 2 = nI 0 := by rw [hJ.2.1, hI0]
      refine qP.of (L := [_]) (by omega) (hP _ rfl) ms_Desk_restore rfl ?_
      show qW X PR (d - 1) (some .int) cd_Desk_restore 0 _ _ _ _
      refine qW.blk rfl ?_
      refine qv_aload rfl ?_
      refine qv_gi ly_8 ⟨rfl, rfl, rfl⟩ (hpic) ?_
      refine qv_if_neNf rfl (by omega) (by omega) (nx := 1) rfl ?_
      refine qW.blk rfl ?_
      refine qv_iconst (v := (-3)) rfl ?_
      refine qv_iret (rfl) ?_
      exact hk s hJ (cfr.rf s)
    · intro s Q hJ hk
      have hpic : qF (uF s 163 0 0) 163 3 = nI 0 := by rw [qF_uFk (by omega), hJ.2.2.1, hI0]
      refine qP.of (L := [_, _]) (by omega) (hP _ rfl) ms_Model_restore rfl ?_
      show qW X PR (d - 1) (some .int) cd_Model_restore 0 _ _ _ _
      refine qW.blk rfl ?_
      refine qv_aload rfl ?_
      refine qv_iconst (v := 0) rfl ?_
      refine qv_pi ly_163 ⟨rfl, rfl, rfl⟩ (rfl) ?_
      refine qv_aload rfl ?_
      refine qv_gi ly_163 ⟨rfl, rfl, rfl⟩ (hpic) ?_
      refine qv_if_neNf rfl (by omega) (by omega) (nx := 1) rfl ?_
      refine qW.blk rfl ?_
      refine qv_iconst (v := (-3)) rfl ?_
      refine qv_iret (rfl) ?_
      exact hk (uF s 163 0 0) hJ.thr ((qfr.rf s).uF (by omega))
end
