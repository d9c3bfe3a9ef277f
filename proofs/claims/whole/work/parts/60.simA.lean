/-! calls that change a number of the chamber -/
theorem w_iff {j lo hi : Nat} (hj : j < 2 ^ 31) (hlo : lo < 2 ^ 31) (hhi : hi < 2 ^ 31) : (nI lo ≤ nI j ∧ nI j ≤ nI hi) ↔ (lo ≤ j ∧ j ≤ hi) := by rw [nI_leI hlo hj, nI_leI hj hhi]
theorem cM.upd {s : QST} {A m : Nat} {C C' : Nat → Nat} (h : cM s A m C) (e1 : ∀ k, k < 5 → C' (10 + 10 * k + m) = C (10 + 10 * k + m)) (e2 : ∀ e, e < 7 → C' (60 + 7 * m + e) = C (60 + 7 * m + e) ∧ C' (130 + 7 * m + e) = C (130 + 7 * m + e)) : cM s A m C' := by
  obtain ⟨h0, h1, h2, h3, h4, h5, h6⟩ := h
  have e0 := e1 0 (by omega)
  have e20 := e1 1 (by omega)
  have e30 := e1 2 (by omega)
  have e40 := e1 3 (by omega)
  have e50 := e1 4 (by omega)
  simp only [Nat.mul_zero, Nat.add_zero, Nat.reduceMul, Nat.reduceAdd] at e0 e20 e30 e40 e50
  exact ⟨h0, by rw [e0]; exact h1, by rw [e20]; exact h2, by rw [e30]; exact h3, by rw [e40]; exact h4, by rw [e50]; exact h5, fun e he => by rw [(e2 e he).1, (e2 e he).2]; exact h6 e he⟩
theorem cC.mem {s s' : QST} {C C' : Nat → Nat} {m0 : Nat} (h : cC s 9 C) (F : qfr (12 + 3 * m0) (12 + 3 * m0 + 2) s s') (hm0 : m0 < C 2) (hM : C 2 ≤ 9) (e : ∀ j, j < 10 → C' j = C j) (e1 : ∀ m, m < 9 → m ≠ m0 → (∀ k, k < 5 → C' (10 + 10 * k + m) = C (10 + 10 * k + m)) ∧ ∀ e, e < 7 → C' (60 + 7 * m + e) = C (60 + 7 * m + e) ∧ C' (130 + 7 * m + e) = C (130 + 7 * m + e)) (hm : cM s' (12 + 3 * m0) m0 C') : cC s' 9 C' := by
  obtain ⟨h0, h1, h2, h3, h4⟩ := h
  refine ⟨by rw [F.f (by omega), e 0 (by omega)]; exact h0, by rw [F.f (by omega), e 1 (by omega)]; exact h1, by rw [F.f (by omega), e 2 (by omega)]; exact h2, by rw [F.f (by omega), e 3 (by omega)]; exact h3, fun m hmC => ?_⟩
  rw [e 2 (by omega)] at hmC
  by_cases hmm : m = m0
  · subst hmm; exact hm
  · obtain ⟨g1, g2⟩ := e1 m (by omega) hmm
    exact ((h4 m hmC).cg (F.F (by omega)) (F.E (by omega)) (F.E (by omega))).upd g1 g2
theorem rC.upd {s : QST} {a k v : Nat} {C : Nat → Nat} (h : rC s a C) : rC (uE s a k (nI v)) a (updN C k v) := by
  intro j hj
  by_cases e : j = k
  · subst e; rw [qE_uEs, updN_s]
  · rw [qE_uEk e, updN_n e]; exact h j hj
theorem AOK.upd {A : AS} {C' : Nat → Nat} (h : AOK A) (hC : CB C') (e : C' 3 = aC A 3) : AOK (C', A.2) := ⟨hC, h.2.1, fun z => ⟨(h.2.2.1 z).1, by show aP A 3 ≤ C' 3; rw [e]; exact (h.2.2.1 z).2⟩, fun t ht => h.2.2.2.1 t (by rw [← e]; exact ht), h.2.2.2.2⟩
theorem JR.upd {s : QST} {A : AS} {k v : Nat} (h : JR s A) (hk : k ≠ 3) : JR (uE s 164 k (nI v)) (updN (aC A) k v, A.2) := by
  obtain ⟨h1, h2, h3, h4, h5, h6⟩ := h
  refine ⟨h1.upd, fun z => (h2 z).cg (qE_uEc (by omega)), h3, fun t ht => ?_, fun d hd => (h5 d hd).cg (fun c hc => qE_uEc (by omega)) rfl, h6⟩
  have ht' : t < aC A 3 := by
    have : (updN (aC A) k v) 3 = aC A 3 := updN_n (Ne.symm hk)
    rw [← this]; exact ht
  exact (h4 t ht').cg (fun c hc => qE_uEc (by omega))
theorem CB.upd {C : Nat → Nat} {k v : Nat} (h : CB C) (hk : 40 ≤ k) (hv : (k < 50 → v ≤ 6) ∧ (k < 60 → v ≤ 100) ∧ (60 ≤ k → v ≤ 9)) : CB (updN C k v) := by
  obtain ⟨h1, h2, h3, h4, h5, h6⟩ := h
  have n : ∀ j, j < 40 → updN C k v j = C j := fun j hj => updN_n (by omega)
  refine ⟨by rw [n 0 (by omega)]; exact h1, by rw [n 0 (by omega)]; exact h2, by rw [n 1 (by omega)]; exact h3, by rw [n 2 (by omega)]; exact h4, by rw [n 3 (by omega)]; exact h5, fun m hm => ?_⟩
  rw [n 2 (by omega)] at hm
  obtain ⟨g1, g2, g3, g4, g5, g6, g7⟩ := h6 m hm
  rw [n (10 + m) (by omega), n (20 + m) (by omega), n (30 + m) (by omega)]
  refine ⟨g1, g2, g3, g4, ?_, ?_, fun e he => ⟨?_, ?_⟩⟩
  · unfold updN; split <;> omega
  · unfold updN; split <;> omega
  · have := (g7 e he).1
    unfold updN; split <;> omega
  · have := (g7 e he).2
    unfold updN; split <;> omega
theorem CB.upd01 {C : Nat → Nat} {k v : Nat} (h : CB C) (hk : k < 2) (hv : (k = 0 → 1 ≤ v ∧ v ≤ 7) ∧ (k = 1 → v ≤ 1)) : CB (updN C k v) := by
  obtain ⟨h1, h2, h3, h4, h5, h6⟩ := h
  have n : ∀ j, 2 ≤ j → updN C k v j = C j := fun j hj => updN_n (by omega)
  refine ⟨?_, ?_, ?_, by rw [n 2 (by omega)]; exact h4, by rw [n 3 (by omega)]; exact h5, fun m hm => ?_⟩
  · unfold updN; split <;> omega
  · unfold updN; split <;> omega
  · unfold updN; split <;> omega
  · rw [n 2 (by omega)] at hm
    obtain ⟨g1, g2, g3, g4, g5, g6, g7⟩ := h6 m hm
    rw [n (10 + m) (by omega), n (20 + m) (by omega), n (30 + m) (by omega), n (40 + m) (by omega), n (50 + m) (by omega)]
    exact ⟨g1, g2, g3, g4, g5, g6, fun e he => by rw [n (60 + 7 * m + e) (by omega), n (130 + 7 * m + e) (by omega)]; exact g7 e he⟩
theorem JC.upd01 {s : QST} {A : AS} {k v : Nat} (h : JC s A) (hA : AOK A) (hk : k < 2) : JC (uF s 9 k (nI v)) (updN (aC A) k v, A.2) := by
  obtain ⟨⟨h0, h1, h2, h3, h4⟩, ho⟩ := h
  have n : ∀ j, 2 ≤ j → updN (aC A) k v j = aC A j := fun j hj => updN_n (by omega)
  refine ⟨⟨?_, ?_, ?_, ?_, fun m hm => ?_⟩, ho.fr hA ((qfr.rf (lo := 9) (hi := 9) s).uF (by omega)) (Or.inl ⟨by omega, by omega, rfl⟩) rfl rfl (n 3 (by omega)) rfl rfl⟩
  · by_cases e : k = 0
    · subst e; rw [qF_uFs]; show nI v = nI (updN (aC A) 0 v 0); rw [updN_s]
    · rw [qF_uFk (Ne.symm e), h0]; exact congrArg nI (updN_n (Ne.symm e)).symm
  · by_cases e : k = 1
    · subst e; rw [qF_uFs]; show nI v = nI (updN (aC A) 1 v 1); rw [updN_s]
    · rw [qF_uFk (Ne.symm e), h1]; exact congrArg nI (updN_n (Ne.symm e)).symm
  · rw [qF_uFk (by omega), h2]; exact congrArg nI (n 2 (by omega)).symm
  · rw [qF_uFk (by omega), h3]; exact congrArg nI (n 3 (by omega)).symm
  · have hm' : m < aC A 2 := by rw [← n 2 (by omega)]; exact hm
    exact ((h4 m hm').cg (qF_uFc (by omega)) rfl rfl).upd (fun k _ => n _ (by omega)) (fun e _ => ⟨n _ (by omega), n _ (by omega)⟩)
/-- a number of member m0 -/
theorem JC.updm {s s' : QST} {A : AS} {k v m0 : Nat} (h : JC s A) (hA : AOK A) (F : qfr (12 + 3 * m0) (12 + 3 * m0 + 2) s s') (hT : qT s' 11 = qT s 11) (hm0 : m0 < aC A 2) (hk : 40 ≤ k) (e1 : ∀ m, m < 9 → m ≠ m0 → k ≠ 40 + m ∧ k ≠ 50 + m ∧ ∀ e, e < 7 → k ≠ 60 + 7 * m + e ∧ k ≠ 130 + 7 * m + e) (hm : cM s' (12 + 3 * m0) m0 (updN (aC A) k v)) : JC s' (updN (aC A) k v, A.2) := by
  have hM := hA.1.2.2.2.1
  refine ⟨h.1.mem F hm0 hM (fun j hj => updN_n (by omega)) (fun m hm9 hne => ?_) hm, h.2.fr hA F (Or.inl ⟨by omega, by omega, hT⟩) rfl rfl (updN_n (by omega)) rfl rfl⟩
  obtain ⟨g1, g2, g3⟩ := e1 m hm9 hne
  refine ⟨fun j hj => updN_n ?_, fun e he => ⟨updN_n (Ne.symm (g3 e he).1), updN_n (Ne.symm (g3 e he).2)⟩⟩
  rcases (show j = 0 ∨ j = 1 ∨ j = 2 ∨ j = 3 ∨ j = 4 by omega) with rfl | rfl | rfl | rfl | rfl <;> omega
theorem cM.uF {s : QST} {A m k v : Nat} {C : Nat → Nat} (h : cM s A m C) (hm : m < 9) (hk : k = 4 ∨ k = 5) : cM (uF s A k (nI v)) A m (updN C (10 * k + m) v) := by
  obtain ⟨h0, h1, h2, h3, h4, h5, h6⟩ := h
  have g : ∀ j, j ≠ 10 * k + m → updN C (10 * k + m) v j = C j := fun j hj => updN_n hj
  refine ⟨by rw [qF_uFk (by omega)]; exact h0, by rw [qF_uFk (by omega), g _ (by omega)]; exact h1, by rw [qF_uFk (by omega), g _ (by omega)]; exact h2, by rw [qF_uFk (by omega), g _ (by omega)]; exact h3, ?_, ?_, fun e he => by rw [g _ (by omega), g _ (by omega)]; exact h6 e he⟩
  · rcases hk with rfl | rfl
    · rw [qF_uFs, show 40 + m = 10 * 4 + m from rfl, updN_s]
    · rw [qF_uFk (by omega), g _ (by omega)]; exact h4
  · rcases hk with rfl | rfl
    · rw [qF_uFk (by omega), g _ (by omega)]; exact h5
    · rw [qF_uFs, show 50 + m = 10 * 5 + m from rfl, updN_s]
theorem cM.uW {s : QST} {A m e v : Nat} {C : Nat → Nat} (h : cM s A m C) (hm : m < 9) (he : e < 7) : cM (uE s (A + 1) e (nI v)) A m (updN C (60 + 7 * m + e) v) := by
  obtain ⟨h0, h1, h2, h3, h4, h5, h6⟩ := h
  have g : ∀ j, j ≠ 60 + 7 * m + e → updN C (60 + 7 * m + e) v j = C j := fun j hj => updN_n hj
  refine ⟨h0, by rw [g _ (by omega)]; exact h1, by rw [g _ (by omega)]; exact h2, by rw [g _ (by omega)]; exact h3, by rw [g _ (by omega)]; exact h4, by rw [g _ (by omega)]; exact h5, fun f hf => ⟨?_, ?_⟩⟩
  · by_cases ef : f = e
    · subst ef; rw [qE_uEs, updN_s]
    · rw [qE_uEk ef, g _ (by omega)]; exact (h6 f hf).1
  · rw [qE_uEc (by omega), g _ (by omega)]; exact (h6 f hf).2
theorem cM.uD {s : QST} {A m e v : Nat} {C : Nat → Nat} (h : cM s A m C) (hm : m < 9) (he : e < 7) : cM (uE s (A + 2) e (nI v)) A m (updN C (130 + 7 * m + e) v) := by
  obtain ⟨h0, h1, h2, h3, h4, h5, h6⟩ := h
  have g : ∀ j, j ≠ 130 + 7 * m + e → updN C (130 + 7 * m + e) v j = C j := fun j hj => updN_n hj
  refine ⟨h0, by rw [g _ (by omega)]; exact h1, by rw [g _ (by omega)]; exact h2, by rw [g _ (by omega)]; exact h3, by rw [g _ (by omega)]; exact h4, by rw [g _ (by omega)]; exact h5, fun f hf => ⟨?_, ?_⟩⟩
  · rw [qE_uEc (by omega), g _ (by omega)]; exact (h6 f hf).1
  · by_cases ef : f = e
    · subst ef; rw [qE_uEs, updN_s]
    · rw [qE_uEk ef, g _ (by omega)]; exact (h6 f hf).2
section
variable {X : pm_X} {PR : pm_P}
theorem w_M_change (hP : pm_np PR) {d : Nat} (hd : 1 ≤ d) {s : QST} {Q : QPost} {k : Nat} {v x : Int32} (hk : k < 200) (hv : qE s 164 k = x) (hk2 : Q (some (.int x)) (uE s 164 k v)) : qP X PR d 172 [.ref 163, .int (nI k), .int v] s Q := by
  refine qP.of (L := [_, _, _, _]) (by omega) (hP _ rfl) ms_Model_change rfl ?_
  show qW X PR (d - 1) (some .int) cd_Model_change 0 _ _ _ _
  refine qW.blk rfl ?_
  refine qv_aload rfl ?_
  refine qv_gr ly_163 ⟨rfl, rfl, rfl⟩ (by omega) ?_
  refine qv_iload rfl ?_
  refine qv_ia ly_164 rfl (by omega) (by decide) (hv) ?_
  refine qv_istore (L' := [_, _, _, _]) rfl ?_
  refine qv_aload rfl ?_
  refine qv_gr ly_163 ⟨rfl, rfl, rfl⟩ (by omega) ?_
  refine qv_iload rfl ?_
  refine qv_iload rfl ?_
  refine qv_is ly_164 rfl (by omega) (by decide) ?_
  refine qv_iload rfl ?_
  refine qv_iret (rfl) ?_
  exact hk2
theorem Sim_set (hP : pm_np PR) (a n : Int32) : Sim X PR 107 163 [.int a, .int n] := by
  intro d A hd hA
  have hC := hA.1
  by_cases h0 : a = 0 ∧ ∃ j, 1 ≤ j ∧ j ≤ 7 ∧ n = nI j
  · obtain ⟨rfl, j, j1, j2, rfl⟩ := h0
    refine ⟨.int (nI (aC A 0)), (updN (aC A) 0 j, A.2), hA.upd (hC.upd01 (by omega) (by omega)) (updN_n (by omega)), ?_, ?_⟩
    · intro s Q hJ hk
      refine qP.of (L := [_, _, _, _]) (by omega) (hP _ rfl) ms_Desk_set rfl ?_
      show qW X PR (d - 1) (some .int) cd_Desk_set 0 _ _ _ _
      refine qW.blk rfl ?_
      refine qv_iload rfl ?_
      refine qv_if_ne_f (fun h => h rfl) (nx := 1) rfl ?_
      refine qW.blk rfl ?_
      refine qv_iload rfl ?_
      refine qv_iconst (v := 1) rfl ?_
      refine qv_iconst (v := 7) rfl ?_
      refine qv_staticE sg_Desk_within rfl (r_Desk_within hP (by omega) (nI j) (nI 1) (nI 7) _) ?_
      refine qv_if_eq_f (bI_ne.mpr ((w_iff (lo := 1) (hi := 7) (by omega) (by omega) (by omega)).mpr ⟨j1, j2⟩)) (nx := 2) rfl ?_
      refine qW.blk rfl ?_
      refine qv_aload rfl ?_
      refine qv_gr ly_8 ⟨rfl, rfl, rfl⟩ (by omega) ?_
      refine qv_gi ly_9 ⟨rfl, rfl, rfl⟩ (hJ.1.1) ?_
      refine qv_istore (L' := [_, _, _, _]) rfl ?_
      refine qv_aload rfl ?_
      refine qv_gr ly_8 ⟨rfl, rfl, rfl⟩ (by omega) ?_
      refine qv_iload rfl ?_
      refine qv_pi ly_9 ⟨rfl, rfl, rfl⟩ (rfl) ?_
      refine qv_iload rfl ?_
      refine qv_iret (rfl) ?_
      exact hk _ (hJ.upd01 hA (by omega)) (((qfr.rf (lo := 9) (hi := 9) s).uF (by omega)).c (by omega) (by omega))
    · intro s Q hJ hk
      refine qP.of (L := [_, _, _, _]) (by omega) (hP _ rfl) ms_Model_set rfl ?_
      show qW X PR (d - 1) (some .int) cd_Model_set 0 _ _ _ _
      refine qW.blk rfl ?_
      refine qv_aload rfl ?_
      refine qv_iconst (v := 0) rfl ?_
      refine qv_pi ly_163 ⟨rfl, rfl, rfl⟩ (rfl) ?_
      refine qv_iload rfl ?_
      refine qv_iconst (v := 0) rfl ?_
      refine qv_iconst (v := 1) rfl ?_
      refine qv_staticE sg_Model_in rfl (r_Model_in hP (by omega) 0 0 1 _) ?_
      refine qv_if_eq_f (bI_ne.mpr (⟨by decide, by decide⟩)) (nx := 1) rfl ?_
      refine qW.blk rfl ?_
      refine qv_iload rfl ?_
      refine qv_iload rfl ?_
      refine qv_if_ne_f (fun h => h rfl) (nx := 2) rfl ?_
      refine qW.blk rfl ?_
      refine qv_iconst (v := 1) rfl ?_
      refine qv_goto (tgt := 4) rfl ?_
      refine qW.blk rfl ?_
      refine qv_iload rfl ?_
      refine qv_if_ne_f (fun h => h rfl) (nx := 5) rfl ?_
      refine qW.blk rfl ?_
      refine qv_iconst (v := 7) rfl ?_
      refine qv_goto (tgt := 7) rfl ?_
      refine qW.blk rfl ?_
      refine qv_staticE sg_Model_in rfl (r_Model_in hP (by omega) (nI j) (nI 1) (nI 7) _) ?_
      refine qv_if_ne_t (bI_ne.mpr ((w_iff (lo := 1) (hi := 7) (by omega) (by omega) (by omega)).mpr ⟨j1, j2⟩)) (tgt := 9) rfl ?_
      refine qW.blk rfl ?_
      refine qv_aload rfl ?_
      refine qv_gr ly_163 ⟨rfl, rfl, rfl⟩ (by omega) ?_
      refine qv_iload rfl ?_
      refine qv_ia (j := 0) ly_164 rfl (by omega) (by decide) (hJ.1 0 (by decide)) ?_
      refine qv_istore (L' := [_, _, _, _]) rfl ?_
      refine qv_aload rfl ?_
      refine qv_gr ly_163 ⟨rfl, rfl, rfl⟩ (by omega) ?_
      refine qv_iload rfl ?_
      refine qv_iload rfl ?_
      refine qv_is (j := 0) ly_164 rfl (by omega) (by decide) ?_
      refine qv_iload rfl ?_
      refine qv_iret (rfl) ?_
      exact hk _ (hJ.thr.upd (k := 0) (by decide)) (((qfr.rf s).uF (by omega)).uE (by omega))
  by_cases h1 : a = 1 ∧ ∃ j, j ≤ 1 ∧ n = nI j
  · obtain ⟨rfl, j, j2, rfl⟩ := h1
    refine ⟨.int (nI (aC A 1)), (updN (aC A) 1 j, A.2), hA.upd (hC.upd01 (by omega) (by omega)) (updN_n (by omega)), ?_, ?_⟩
    · intro s Q hJ hk
      refine qP.of (L := [_, _, _, _]) (by omega) (hP _ rfl) ms_Desk_set rfl ?_
      show qW X PR (d - 1) (some .int) cd_Desk_set 0 _ _ _ _
      refine qW.blk rfl ?_
      refine qv_iload rfl ?_
      refine qv_if_ne_t (by decide) (tgt := 3) rfl ?_
      refine qW.blk rfl ?_
      refine qv_iload rfl ?_
      refine qv_iconst (v := 1) rfl ?_
      refine qv_icmp_ne_f (fun h => h rfl) (nx := 4) rfl ?_
      refine qW.blk rfl ?_
      refine qv_iload rfl ?_
      refine qv_iconst (v := 0) rfl ?_
      refine qv_iconst (v := 1) rfl ?_
      refine qv_staticE sg_Desk_within rfl (r_Desk_within hP (by omega) (nI j) (nI 0) (nI 1) _) ?_
      refine qv_if_eq_f (bI_ne.mpr ((w_iff (lo := 0) (hi := 1) (by omega) (by omega) (by omega)).mpr ⟨by omega, j2⟩)) (nx := 5) rfl ?_
      refine qW.blk rfl ?_
      refine qv_aload rfl ?_
      refine qv_gr ly_8 ⟨rfl, rfl, rfl⟩ (by omega) ?_
      refine qv_gi ly_9 ⟨rfl, rfl, rfl⟩ (hJ.1.2.1) ?_
      refine qv_istore (L' := [_, _, _, _]) rfl ?_
      refine qv_aload rfl ?_
      refine qv_gr ly_8 ⟨rfl, rfl, rfl⟩ (by omega) ?_
      refine qv_iload rfl ?_
      refine qv_pi ly_9 ⟨rfl, rfl, rfl⟩ (rfl) ?_
      refine qv_iload rfl ?_
      refine qv_iret (rfl) ?_
      exact hk _ (hJ.upd01 hA (by omega)) (((qfr.rf (lo := 9) (hi := 9) s).uF (by omega)).c (by omega) (by omega))
    · intro s Q hJ hk
      refine qP.of (L := [_, _, _, _]) (by omega) (hP _ rfl) ms_Model_set rfl ?_
      show qW X PR (d - 1) (some .int) cd_Model_set 0 _ _ _ _
      refine qW.blk rfl ?_
      refine qv_aload rfl ?_
      refine qv_iconst (v := 0) rfl ?_
      refine qv_pi ly_163 ⟨rfl, rfl, rfl⟩ (rfl) ?_
      refine qv_iload rfl ?_
      refine qv_iconst (v := 0) rfl ?_
      refine qv_iconst (v := 1) rfl ?_
      refine qv_staticE sg_Model_in rfl (r_Model_in hP (by omega) 1 0 1 _) ?_
      refine qv_if_eq_f (bI_ne.mpr (⟨by decide, by decide⟩)) (nx := 1) rfl ?_
      refine qW.blk rfl ?_
      refine qv_iload rfl ?_
      refine qv_iload rfl ?_
      refine qv_if_ne_t (by decide) (tgt := 3) rfl ?_
      refine qW.blk rfl ?_
      refine qv_iconst (v := 0) rfl ?_
      refine qv_nil (nx := 4) rfl ?_
      refine qW.blk rfl ?_
      refine qv_iload rfl ?_
      refine qv_if_ne_t (by decide) (tgt := 6) rfl ?_
      refine qW.blk rfl ?_
      refine qv_iconst (v := 1) rfl ?_
      refine qv_nil (nx := 7) rfl ?_
      refine qW.blk rfl ?_
      refine qv_staticE sg_Model_in rfl (r_Model_in hP (by omega) (nI j) (nI 0) (nI 1) _) ?_
      refine qv_if_ne_t (bI_ne.mpr ((w_iff (lo := 0) (hi := 1) (by omega) (by omega) (by omega)).mpr ⟨by omega, j2⟩)) (tgt := 9) rfl ?_
      refine qW.blk rfl ?_
      refine qv_aload rfl ?_
      refine qv_gr ly_163 ⟨rfl, rfl, rfl⟩ (by omega) ?_
      refine qv_iload rfl ?_
      refine qv_ia (j := 1) ly_164 rfl (by omega) (by decide) (hJ.1 1 (by decide)) ?_
      refine qv_istore (L' := [_, _, _, _]) rfl ?_
      refine qv_aload rfl ?_
      refine qv_gr ly_163 ⟨rfl, rfl, rfl⟩ (by omega) ?_
      refine qv_iload rfl ?_
      refine qv_iload rfl ?_
      refine qv_is (j := 1) ly_164 rfl (by omega) (by decide) ?_
      refine qv_iload rfl ?_
      refine qv_iret (rfl) ?_
      exact hk _ (hJ.thr.upd (k := 1) (by decide)) (((qfr.rf s).uF (by omega)).uE (by omega))
  · refine ⟨.int (-1), A, hA, ?_, ?_⟩
    · intro s Q hJ hk
      have fin := hk s hJ (cfr.rf s)
      refine qP.of (L := [_, _, _, _]) (by omega) (hP _ rfl) ms_Desk_set rfl ?_
      show qW X PR (d - 1) (some .int) cd_Desk_set 0 _ _ _ _
      have t3 : ¬ a = 0 ∨ (∃ j, 1 ≤ j ∧ j ≤ 7 ∧ n = nI j) ∨ True → ¬ (a = 1 ∧ ∃ j, j ≤ 1 ∧ n = nI j) → qW X PR (d - 1) (some .int) cd_Desk_set 3 [some (.ref (8)), some (.int (a)), some (.int (n)), none] [] s Q := by
        intro _ h1
        by_cases ha : a = 1
        · have hn : ¬ (0 ≤ n ∧ n ≤ 1) := fun z => h1 ⟨ha, by obtain ⟨j, z1, z2⟩ := (in_nI (n := 1) (by omega)).mp z; exact ⟨j, z1, z2⟩⟩
          refine qW.blk rfl ?_
          refine qv_iload rfl ?_
          refine qv_iconst (v := 1) rfl ?_
          refine qv_icmp_ne_f (fun h => h ha) (nx := 4) rfl ?_
          refine qW.blk rfl ?_
          refine qv_iload rfl ?_
          refine qv_iconst (v := 0) rfl ?_
          refine qv_iconst (v := 1) rfl ?_
          refine qv_staticE sg_Desk_within rfl (r_Desk_within hP (by omega) n 0 1 _) ?_
          refine qv_if_eq_t (bI_f (hn)) (tgt := 6) rfl ?_
          refine qW.blk rfl ?_
          refine qv_iconst (v := (-1)) rfl ?_
          refine qv_iret (rfl) ?_
          exact fin
        · refine qW.blk rfl ?_
          refine qv_iload rfl ?_
          refine qv_iconst (v := 1) rfl ?_
          refine qv_icmp_ne_t (ha) (tgt := 6) rfl ?_
          refine qW.blk rfl ?_
          refine qv_iconst (v := (-1)) rfl ?_
          refine qv_iret (rfl) ?_
          exact fin
      by_cases ha : a = 0
      · have hn : ¬ (1 ≤ n ∧ n ≤ 7) := fun z => h0 ⟨ha, by
          obtain ⟨j, z1, z2⟩ := (in_nI (n := 7) (by omega)).mp ⟨Int32.le_trans (by decide) z.1, z.2⟩
          subst z2
          exact ⟨j, ((w_iff (lo := 1) (hi := 7) (by omega) (by omega) (by omega)).mp z).1, z1, rfl⟩⟩
        refine qW.blk rfl ?_
        refine qv_iload rfl ?_
        refine qv_if_ne_f (fun h => h ha) (nx := 1) rfl ?_
        refine qW.blk rfl ?_
        refine qv_iload rfl ?_
        refine qv_iconst (v := 1) rfl ?_
        refine qv_iconst (v := 7) rfl ?_
        refine qv_staticE sg_Desk_within rfl (r_Desk_within hP (by omega) n 1 7 _) ?_
        refine qv_if_eq_t (bI_f (hn)) (tgt := 3) rfl ?_
        exact t3 (Or.inr (Or.inr trivial)) h1
      · refine qW.blk rfl ?_
        refine qv_iload rfl ?_
        refine qv_if_ne_t (ha) (tgt := 3) rfl ?_
        exact t3 (Or.inl ha) h1
    · intro s Q hJ hk
      have fin := hk (uF s 163 0 0) hJ.thr ((qfr.rf s).uF (by omega))
      refine qP.of (L := [_, _, _, _]) (by omega) (hP _ rfl) ms_Model_set rfl ?_
      show qW X PR (d - 1) (some .int) cd_Model_set 0 _ _ _ _
      by_cases ha : a = 0
      · subst ha
        have hn : ¬ (1 ≤ n ∧ n ≤ 7) := fun z => h0 ⟨rfl, by
          obtain ⟨j, z1, z2⟩ := (in_nI (n := 7) (by omega)).mp ⟨Int32.le_trans (by decide) z.1, z.2⟩
          subst z2
          exact ⟨j, ((w_iff (lo := 1) (hi := 7) (by omega) (by omega) (by omega)).mp z).1, z1, rfl⟩⟩
        refine qW.blk rfl ?_
        refine qv_aload rfl ?_
        refine qv_iconst (v := 0) rfl ?_
        refine qv_pi ly_163 ⟨rfl, rfl, rfl⟩ (rfl) ?_
        refine qv_iload rfl ?_
        refine qv_iconst (v := 0) rfl ?_
        refine qv_iconst (v := 1) rfl ?_
        refine qv_staticE sg_Model_in rfl (r_Model_in hP (by omega) 0 0 1 _) ?_
        refine qv_if_eq_f (bI_ne.mpr (⟨by decide, by decide⟩)) (nx := 1) rfl ?_
        refine qW.blk rfl ?_
        refine qv_iload rfl ?_
        refine qv_iload rfl ?_
        refine qv_if_ne_f (fun h => h rfl) (nx := 2) rfl ?_
        refine qW.blk rfl ?_
        refine qv_iconst (v := 1) rfl ?_
        refine qv_goto (tgt := 4) rfl ?_
        refine qW.blk rfl ?_
        refine qv_iload rfl ?_
        refine qv_if_ne_f (fun h => h rfl) (nx := 5) rfl ?_
        refine qW.blk rfl ?_
        refine qv_iconst (v := 7) rfl ?_
        refine qv_goto (tgt := 7) rfl ?_
        refine qW.blk rfl ?_
        refine qv_staticE sg_Model_in rfl (r_Model_in hP (by omega) n 1 7 _) ?_
        refine qv_if_ne_f (fun zq => zq (bI_f (hn))) (nx := 8) rfl ?_
        refine qW.blk rfl ?_
        refine qv_iconst (v := (-1)) rfl ?_
        refine qv_iret (rfl) ?_
        exact fin
      by_cases ha1 : a = 1
      · subst ha1
        have hn : ¬ (0 ≤ n ∧ n ≤ 1) := fun z => h1 ⟨rfl, by obtain ⟨j, z1, z2⟩ := (in_nI (n := 1) (by omega)).mp z; exact ⟨j, z1, z2⟩⟩
        refine qW.blk rfl ?_
        refine qv_aload rfl ?_
        refine qv_iconst (v := 0) rfl ?_
        refine qv_pi ly_163 ⟨rfl, rfl, rfl⟩ (rfl) ?_
        refine qv_iload rfl ?_
        refine qv_iconst (v := 0) rfl ?_
        refine qv_iconst (v := 1) rfl ?_
        refine qv_staticE sg_Model_in rfl (r_Model_in hP (by omega) 1 0 1 _) ?_
        refine qv_if_eq_f (bI_ne.mpr (⟨by decide, by decide⟩)) (nx := 1) rfl ?_
        refine qW.blk rfl ?_
        refine qv_iload rfl ?_
        refine qv_iload rfl ?_
        refine qv_if_ne_t (by decide) (tgt := 3) rfl ?_
        refine qW.blk rfl ?_
        refine qv_iconst (v := 0) rfl ?_
        refine qv_nil (nx := 4) rfl ?_
        refine qW.blk rfl ?_
        refine qv_iload rfl ?_
        refine qv_if_ne_t (by decide) (tgt := 6) rfl ?_
        refine qW.blk rfl ?_
        refine qv_iconst (v := 1) rfl ?_
        refine qv_nil (nx := 7) rfl ?_
        refine qW.blk rfl ?_
        refine qv_staticE sg_Model_in rfl (r_Model_in hP (by omega) n 0 1 _) ?_
        refine qv_if_ne_f (fun zq => zq (bI_f (hn))) (nx := 8) rfl ?_
        refine qW.blk rfl ?_
        refine qv_iconst (v := (-1)) rfl ?_
        refine qv_iret (rfl) ?_
        exact fin
      · have hn : ¬ (0 ≤ a ∧ a ≤ 1) := fun z => by
          obtain ⟨j, z1, z2⟩ := (in_nI (n := 1) (by omega)).mp z
          rcases (show j = 0 ∨ j = 1 by omega) with rfl | rfl
          · exact ha z2
          · exact ha1 z2
        refine qW.blk rfl ?_
        refine qv_aload rfl ?_
        refine qv_iconst (v := 0) rfl ?_
        refine qv_pi ly_163 ⟨rfl, rfl, rfl⟩ (rfl) ?_
        refine qv_iload rfl ?_
        refine qv_iconst (v := 0) rfl ?_
        refine qv_iconst (v := 1) rfl ?_
        refine qv_staticE sg_Model_in rfl (r_Model_in hP (by omega) a 0 1 _) ?_
        refine qv_if_eq_t (bI_f (hn)) (tgt := 8) rfl ?_
        refine qW.blk rfl ?_
        refine qv_iconst (v := (-1)) rfl ?_
        refine qv_iret (rfl) ?_
        exact fin
/-- a member's place is told, or none -/
theorem pl_of (v : Int32) (M : Nat) : (∃ m, m < M ∧ v = nI m) ∨ ¬ ∃ m, m < M ∧ v = nI m := Classical.em _
theorem Sim_sure (hP : pm_np PR) (a n : Int32) : Sim X PR 117 174 [.int a, .int n] := by
  intro d A hd hA
  have hC := hA.1
  have hM := hC.2.2.2.1
  by_cases h0 : (∃ m, m < aC A 2 ∧ a = nI m) ∧ ∃ j, j ≤ 100 ∧ n = nI j
  · obtain ⟨⟨m, hm, rfl⟩, j, j2, rfl⟩ := h0
    have hin : nI 0 ≤ nI j ∧ nI j ≤ nI 100 := (w_iff (by omega) (by omega) (by omega)).mpr ⟨by omega, j2⟩
    refine ⟨.int (nI (aC A (50 + m))), (updN (aC A) (50 + m) j, A.2), hA.upd (hC.upd (by omega) (by omega)) (updN_n (by omega)), ?_, ?_⟩
    · intro s Q hJ hk
      have cm := hJ.1.2.2.2.2 m hm
      refine qP.of (L := [_, _, _, _, _]) (by omega) (hP _ rfl) ms_Desk_sure rfl ?_
      show qW X PR (d - 1) (some .int) cd_Desk_sure 0 _ _ _ _
      refine qW.blk rfl ?_
      refine qv_aload rfl ?_
      refine qv_gr ly_8 ⟨rfl, rfl, rfl⟩ (by omega) ?_
      refine qv_iload rfl ?_
      refine qv_virtE (ly_9.rcv _) sg_Chamber_memberAt rfl rfl (r_memberAt_y hP (by omega) hJ.1.2.2.1 hM hm) ?_
      refine qv_astore (L' := [_, _, _, _, _]) rfl ?_
      refine qv_aload rfl ?_
      refine qv_null_f (nx := 1) rfl ?_
      refine qW.blk rfl ?_
      refine qv_iload rfl ?_
      refine qv_iconst (v := 0) rfl ?_
      refine qv_iconst (v := 100) rfl ?_
      refine qv_staticE sg_Desk_within rfl (r_Desk_within hP (by omega) (nI j) (nI 0) (nI 100) _) ?_
      refine qv_if_ne_t (bI_ne.mpr (hin)) (tgt := 3) rfl ?_
      refine qW.blk rfl ?_
      refine qv_aload rfl ?_
      refine qv_gi (mb_now (m := m) (by omega)).1 ⟨rfl, rfl, rfl⟩ (cm.2.2.2.2.2.1) ?_
      refine qv_istore (L' := [_, _, _, _, _]) rfl ?_
      refine qv_aload rfl ?_
      refine qv_iload rfl ?_
      refine qv_pi (mb_now (m := m) (by omega)).1 ⟨rfl, rfl, rfl⟩ (rfl) ?_
      refine qv_iload rfl ?_
      refine qv_iret (rfl) ?_
      exact hk _ (hJ.updm hA ((qfr.rf s).uF (by omega)) rfl hm (by omega) (fun m' h1 h2 => ⟨by omega, by omega, fun e he => by omega⟩) (cm.uF (by omega) (Or.inr rfl))) (((qfr.rf (lo := 9) (hi := 38) s).uF (by omega)).c (by omega) (by omega))
    · intro s Q hJ hk
      refine qP.of (L := [_, _, _]) (by omega) (hP _ rfl) ms_Model_sure rfl ?_
      show qW X PR (d - 1) (some .int) cd_Model_sure 0 _ _ _ _
      refine qW.blk rfl ?_
      refine qv_aload rfl ?_
      refine qv_iconst (v := 0) rfl ?_
      refine qv_pi ly_163 ⟨rfl, rfl, rfl⟩ (rfl) ?_
      refine qv_aload rfl ?_
      refine qv_iload rfl ?_
      refine qv_virtE (ly_163.rcv _) sg_Model_isMember rfl rfl (r_M_isMember hP (by omega) (nI m) (hJ.thr.1 2 (by decide))) ?_
      refine qv_if_eq_f (bI_ne.mpr ((in_nI1 (by omega)).mpr ⟨m, hm, rfl⟩)) (nx := 1) rfl ?_
      refine qW.blk rfl ?_
      refine qv_iload rfl ?_
      refine qv_iconst (v := 0) rfl ?_
      refine qv_iconst (v := 100) rfl ?_
      refine qv_staticE sg_Model_in rfl (r_Model_in hP (by omega) (nI j) (nI 0) (nI 100) _) ?_
      refine qv_if_eq_f (bI_ne.mpr (hin)) (nx := 2) rfl ?_
      refine qW.blk rfl ?_
      refine qv_aload rfl ?_
      refine qv_iconst (v := 50) rfl ?_
      refine qv_iload rfl ?_
      refine qv_iaddN (p := 50) rfl rfl ?_
      refine qv_iload rfl ?_
      refine qv_virt (ly_163.rcv _) sg_Model_change rfl rfl (w_M_change hP (by omega) (by omega) (hJ.thr.1 (50 + m) (by omega)) ?_) 
      refine qv_goto (tgt := 4) rfl ?_
      refine qW.blk rfl ?_
      refine qv_iret (rfl) ?_
      exact hk _ (hJ.thr.upd (by omega)) (((qfr.rf s).uF (by omega)).uE (by omega))
  · refine ⟨.int (-1), A, hA, ?_, ?_⟩
    · intro s Q hJ hk
      have fin := hk s hJ (cfr.rf s)
      refine qP.of (L := [_, _, _, _, _]) (by omega) (hP _ rfl) ms_Desk_sure rfl ?_
      show qW X PR (d - 1) (some .int) cd_Desk_sure 0 _ _ _ _
      rcases pl_of a (aC A 2) with hm | hm
      · obtain ⟨m, hm, rfl⟩ := hm
        have hn : ¬ (0 ≤ n ∧ n ≤ nI 100) := fun z => h0 ⟨⟨m, hm, rfl⟩, (in_nI (n := 100) (by omega)).mp z⟩
        refine qW.blk rfl ?_
        refine qv_aload rfl ?_
        refine qv_gr ly_8 ⟨rfl, rfl, rfl⟩ (by omega) ?_
        refine qv_iload rfl ?_
        refine qv_virtE (ly_9.rcv _) sg_Chamber_memberAt rfl rfl (r_memberAt_y hP (by omega) hJ.1.2.2.1 hM hm) ?_
        refine qv_astore (L' := [_, _, _, _, _]) rfl ?_
        refine qv_aload rfl ?_
        refine qv_null_f (nx := 1) rfl ?_
        refine qW.blk rfl ?_
        refine qv_iload rfl ?_
        refine qv_iconst (v := 0) rfl ?_
        refine qv_iconst (v := 100) rfl ?_
        refine qv_staticE sg_Desk_within rfl (r_Desk_within hP (by omega) n 0 (nI 100) _) ?_
        refine qv_if_ne_f (fun zq => zq (bI_f (hn))) (nx := 2) rfl ?_
        refine qW.blk rfl ?_
        refine qv_iconst (v := (-1)) rfl ?_
        refine qv_iret (rfl) ?_
        exact fin
      · refine qW.blk rfl ?_
        refine qv_aload rfl ?_
        refine qv_gr ly_8 ⟨rfl, rfl, rfl⟩ (by omega) ?_
        refine qv_iload rfl ?_
        refine qv_virtE (ly_9.rcv _) sg_Chamber_memberAt rfl rfl (r_memberAt_n hP (by omega) hJ.1.2.2.1 hM hm) ?_
        refine qv_astoreN (L' := [_, _, _, _, _]) rfl ?_
        refine qv_aloadN rfl ?_
        refine qv_null_t (tgt := 2) rfl ?_
        refine qW.blk rfl ?_
        refine qv_iconst (v := (-1)) rfl ?_
        refine qv_iret (rfl) ?_
        exact fin
    · intro s Q hJ hk
      have fin := hk (uF s 163 0 0) hJ.thr ((qfr.rf s).uF (by omega))
      refine qP.of (L := [_, _, _]) (by omega) (hP _ rfl) ms_Model_sure rfl ?_
      show qW X PR (d - 1) (some .int) cd_Model_sure 0 _ _ _ _
      rcases pl_of a (aC A 2) with hm | hm
      · have hn : ¬ (0 ≤ n ∧ n ≤ nI 100) := fun z => h0 ⟨hm, (in_nI (n := 100) (by omega)).mp z⟩
        refine qW.blk rfl ?_
        refine qv_aload rfl ?_
        refine qv_iconst (v := 0) rfl ?_
        refine qv_pi ly_163 ⟨rfl, rfl, rfl⟩ (rfl) ?_
        refine qv_aload rfl ?_
        refine qv_iload rfl ?_
        refine qv_virtE (ly_163.rcv _) sg_Model_isMember rfl rfl (r_M_isMember hP (by omega) a (hJ.thr.1 2 (by decide))) ?_
        refine qv_if_eq_f (bI_ne.mpr ((in_nI1 (by omega)).mpr hm)) (nx := 1) rfl ?_
        refine qW.blk rfl ?_
        refine qv_iload rfl ?_
        refine qv_iconst (v := 0) rfl ?_
        refine qv_iconst (v := 100) rfl ?_
        refine qv_staticE sg_Model_in rfl (r_Model_in hP (by omega) n 0 (nI 100) _) ?_
        refine qv_if_eq_t (bI_f (hn)) (tgt := 3) rfl ?_
        refine qW.blk rfl ?_
        refine qv_iconst (v := (-1)) rfl ?_
        refine qv_nil (nx := 4) rfl ?_
        refine qW.blk rfl ?_
        refine qv_iret (rfl) ?_
        exact fin
      · refine qW.blk rfl ?_
        refine qv_aload rfl ?_
        refine qv_iconst (v := 0) rfl ?_
        refine qv_pi ly_163 ⟨rfl, rfl, rfl⟩ (rfl) ?_
        refine qv_aload rfl ?_
        refine qv_iload rfl ?_
        refine qv_virtE (ly_163.rcv _) sg_Model_isMember rfl rfl (r_M_isMember hP (by omega) a (hJ.thr.1 2 (by decide))) ?_
        refine qv_if_eq_t (bI_f (fun z => hm ((in_nI1 (by omega)).mp z))) (tgt := 3) rfl ?_
        refine qW.blk rfl ?_
        refine qv_iconst (v := (-1)) rfl ?_
        refine qv_nil (nx := 4) rfl ?_
        refine qW.blk rfl ?_
        refine qv_iret (rfl) ?_
        exact fin
theorem Sim_bought (hP : pm_np PR) (a n : Int32) : Sim X PR 111 167 [.int a, .int n] := by
  intro d A hd hA
  have hC := hA.1
  have hM := hC.2.2.2.1
  by_cases h0 : (∃ m, m < aC A 2 ∧ a = nI m) ∧ ∃ j, j ≤ 6 ∧ n = nI j
  · obtain ⟨⟨m, hm, rfl⟩, j, j2, rfl⟩ := h0
    have hin : nI 0 ≤ nI j ∧ nI j ≤ nI 6 := (w_iff (by omega) (by omega) (by omega)).mpr ⟨by omega, j2⟩
    have hk5 := (hC.2.2.2.2.2 m hm).1
    by_cases hb : aC A (10 + m) = 4
    · refine ⟨.int (nI (aC A (40 + m))), (updN (aC A) (40 + m) j, A.2), hA.upd (hC.upd (by omega) (by omega)) (updN_n (by omega)), ?_, ?_⟩
      · intro s Q hJ hk
        have cm := hJ.1.2.2.2.2 m hm
        refine qP.of (L := [_, _, _, _, _]) (by omega) (hP _ rfl) ms_Desk_bought rfl ?_
        show qW X PR (d - 1) (some .int) cd_Desk_bought 0 _ _ _ _
        refine qW.blk rfl ?_
        refine qv_aload rfl ?_
        refine qv_gr ly_8 ⟨rfl, rfl, rfl⟩ (by omega) ?_
        refine qv_iload rfl ?_
        refine qv_virtE (ly_9.rcv _) sg_Chamber_memberAt rfl rfl (r_memberAt_y hP (by omega) hJ.1.2.2.1 hM hm) ?_
        refine qv_astore (L' := [_, _, _, _, _]) rfl ?_
        refine qv_aload rfl ?_
        refine qv_null_f (nx := 1) rfl ?_
        refine qW.blk rfl ?_
        refine qv_iload rfl ?_
        refine qv_staticE sg_Desk_isEnd rfl (r_Desk_isEnd hP (by omega) (nI j) _) ?_
        refine qv_if_ne_t (bI_ne.mpr (hin)) (tgt := 3) rfl ?_
        refine qW.blk rfl ?_
        refine qv_aload rfl ?_
        refine qv_gi (mb_now (m := m) (by omega)).1 ⟨rfl, rfl, rfl⟩ (cm.2.1) ?_
        refine qv_iconst (v := 4) rfl ?_
        refine qv_icmp_eqNt (q := 4) rfl rfl (by omega) (by omega) (by omega) (tgt := 5) rfl ?_
        refine qW.blk rfl ?_
        refine qv_aload rfl ?_
        refine qv_gi (mb_now (m := m) (by omega)).1 ⟨rfl, rfl, rfl⟩ (cm.2.2.2.2.1) ?_
        refine qv_istore (L' := [_, _, _, _, _]) rfl ?_
        refine qv_aload rfl ?_
        refine qv_iload rfl ?_
        refine qv_pi (mb_now (m := m) (by omega)).1 ⟨rfl, rfl, rfl⟩ (rfl) ?_
        refine qv_iload rfl ?_
        refine qv_iret (rfl) ?_
        exact hk _ (hJ.updm hA ((qfr.rf s).uF (by omega)) rfl hm (by omega) (fun m' h1 h2 => ⟨by omega, by omega, fun e he => by omega⟩) (cm.uF (by omega) (Or.inl rfl))) (((qfr.rf (lo := 9) (hi := 38) s).uF (by omega)).c (by omega) (by omega))
      · intro s Q hJ hk
        refine qP.of (L := [_, _, _, _]) (by omega) (hP _ rfl) ms_Model_bought rfl ?_
        show qW X PR (d - 1) (some .int) cd_Model_bought 0 _ _ _ _
        refine qW.blk rfl ?_
        refine qv_aload rfl ?_
        refine qv_iconst (v := 0) rfl ?_
        refine qv_pi ly_163 ⟨rfl, rfl, rfl⟩ (rfl) ?_
        refine qv_aload rfl ?_
        refine qv_iload rfl ?_
        refine qv_virtE (ly_163.rcv _) sg_Model_isMember rfl rfl (r_M_isMember hP (by omega) (nI m) (hJ.thr.1 2 (by decide))) ?_
        refine qv_if_eq_f (bI_ne.mpr ((in_nI1 (by omega)).mpr ⟨m, hm, rfl⟩)) (nx := 1) rfl ?_
        refine qW.blk rfl ?_
        refine qv_iload rfl ?_
        refine qv_staticE sg_Model_isEnd rfl (r_Model_isEnd hP (by omega) (nI j) _) ?_
        refine qv_if_ne_t (bI_ne.mpr (hin)) (tgt := 3) rfl ?_
        refine qW.blk rfl ?_
        refine qv_aload rfl ?_
        refine qv_gr ly_163 ⟨rfl, rfl, rfl⟩ (by omega) ?_
        refine qv_iconst (v := 10) rfl ?_
        refine qv_iload rfl ?_
        refine qv_iaddN (p := 10) rfl rfl ?_
        refine qv_ia ly_164 rfl (by omega) (by decide) (hJ.thr.1 (10 + m) (by omega)) ?_
        refine qv_iconst (v := 4) rfl ?_
        refine qv_icmp_eqNt (q := 4) rfl rfl (by omega) (by omega) (by omega) (tgt := 5) rfl ?_
        refine qW.blk rfl ?_
        refine qv_aload rfl ?_
        refine qv_gr ly_163 ⟨rfl, rfl, rfl⟩ (by omega) ?_
        refine qv_iconst (v := 40) rfl ?_
        refine qv_iload rfl ?_
        refine qv_iaddN (p := 40) rfl rfl ?_
        refine qv_ia ly_164 rfl (by omega) (by decide) (hJ.thr.1 (40 + m) (by omega)) ?_
        refine qv_istore (L' := [_, _, _, _]) rfl ?_
        refine qv_aload rfl ?_
        refine qv_gr ly_163 ⟨rfl, rfl, rfl⟩ (by omega) ?_
        refine qv_iconst (v := 40) rfl ?_
        refine qv_iload rfl ?_
        refine qv_iaddN (p := 40) rfl rfl ?_
        refine qv_iload rfl ?_
        refine qv_is ly_164 rfl (by omega) (by decide) ?_
        refine qv_iload rfl ?_
        refine qv_iret (rfl) ?_
        exact hk _ (hJ.thr.upd (by omega)) (((qfr.rf s).uF (by omega)).uE (by omega))
    · refine ⟨.int (-3), A, hA, ?_, ?_⟩
      · intro s Q hJ hk
        have cm := hJ.1.2.2.2.2 m hm
        refine qP.of (L := [_, _, _, _, _]) (by omega) (hP _ rfl) ms_Desk_bought rfl ?_
        show qW X PR (d - 1) (some .int) cd_Desk_bought 0 _ _ _ _
        refine qW.blk rfl ?_
        refine qv_aload rfl ?_
        refine qv_gr ly_8 ⟨rfl, rfl, rfl⟩ (by omega) ?_
        refine qv_iload rfl ?_
        refine qv_virtE (ly_9.rcv _) sg_Chamber_memberAt rfl rfl (r_memberAt_y hP (by omega) hJ.1.2.2.1 hM hm) ?_
        refine qv_astore (L' := [_, _, _, _, _]) rfl ?_
        refine qv_aload rfl ?_
        refine qv_null_f (nx := 1) rfl ?_
        refine qW.blk rfl ?_
        refine qv_iload rfl ?_
        refine qv_staticE sg_Desk_isEnd rfl (r_Desk_isEnd hP (by omega) (nI j) _) ?_
        refine qv_if_ne_t (bI_ne.mpr (hin)) (tgt := 3) rfl ?_
        refine qW.blk rfl ?_
        refine qv_aload rfl ?_
        refine qv_gi (mb_now (m := m) (by omega)).1 ⟨rfl, rfl, rfl⟩ (cm.2.1) ?_
        refine qv_iconst (v := 4) rfl ?_
        refine qv_icmp_eqNf (q := 4) rfl rfl (by omega) (by omega) (by omega) (nx := 4) rfl ?_
        refine qW.blk rfl ?_
        refine qv_iconst (v := (-3)) rfl ?_
        refine qv_iret (rfl) ?_
        exact hk s hJ (cfr.rf s)
      · intro s Q hJ hk
        refine qP.of (L := [_, _, _, _]) (by omega) (hP _ rfl) ms_Model_bought rfl ?_
        show qW X PR (d - 1) (some .int) cd_Model_bought 0 _ _ _ _
        refine qW.blk rfl ?_
        refine qv_aload rfl ?_
        refine qv_iconst (v := 0) rfl ?_
        refine qv_pi ly_163 ⟨rfl, rfl, rfl⟩ (rfl) ?_
        refine qv_aload rfl ?_
        refine qv_iload rfl ?_
        refine qv_virtE (ly_163.rcv _) sg_Model_isMember rfl rfl (r_M_isMember hP (by omega) (nI m) (hJ.thr.1 2 (by decide))) ?_
        refine qv_if_eq_f (bI_ne.mpr ((in_nI1 (by omega)).mpr ⟨m, hm, rfl⟩)) (nx := 1) rfl ?_
        refine qW.blk rfl ?_
        refine qv_iload rfl ?_
        refine qv_staticE sg_Model_isEnd rfl (r_Model_isEnd hP (by omega) (nI j) _) ?_
        refine qv_if_ne_t (bI_ne.mpr (hin)) (tgt := 3) rfl ?_
        refine qW.blk rfl ?_
        refine qv_aload rfl ?_
        refine qv_gr ly_163 ⟨rfl, rfl, rfl⟩ (by omega) ?_
        refine qv_iconst (v := 10) rfl ?_
        refine qv_iload rfl ?_
        refine qv_iaddN (p := 10) rfl rfl ?_
        refine qv_ia ly_164 rfl (by omega) (by decide) (hJ.thr.1 (10 + m) (by omega)) ?_
        refine qv_iconst (v := 4) rfl ?_
        refine qv_icmp_eqNf (q := 4) rfl rfl (by omega) (by omega) (by omega) (nx := 4) rfl ?_
        refine qW.blk rfl ?_
        refine qv_iconst (v := (-3)) rfl ?_
        refine qv_iret (rfl) ?_
        exact hk (uF s 163 0 0) hJ.thr ((qfr.rf s).uF (by omega))
  · refine ⟨.int (-1), A, hA, ?_, ?_⟩
    · intro s Q hJ hk
      have fin := hk s hJ (cfr.rf s)
      refine qP.of (L := [_, _, _, _, _]) (by omega) (hP _ rfl) ms_Desk_bought rfl ?_
      show qW X PR (d - 1) (some .int) cd_Desk_bought 0 _ _ _ _
      rcases pl_of a (aC A 2) with hm | hm
      · obtain ⟨m, hm, rfl⟩ := hm
        have hn : ¬ (0 ≤ n ∧ n ≤ nI 6) := fun z => h0 ⟨⟨m, hm, rfl⟩, (in_nI (n := 6) (by omega)).mp z⟩
        refine qW.blk rfl ?_
        refine qv_aload rfl ?_
        refine qv_gr ly_8 ⟨rfl, rfl, rfl⟩ (by omega) ?_
        refine qv_iload rfl ?_
        refine qv_virtE (ly_9.rcv _) sg_Chamber_memberAt rfl rfl (r_memberAt_y hP (by omega) hJ.1.2.2.1 hM hm) ?_
        refine qv_astore (L' := [_, _, _, _, _]) rfl ?_
        refine qv_aload rfl ?_
        refine qv_null_f (nx := 1) rfl ?_
        refine qW.blk rfl ?_
        refine qv_iload rfl ?_
        refine qv_staticE sg_Desk_isEnd rfl (r_Desk_isEnd hP (by omega) n _) ?_
        refine qv_if_ne_f (fun zq => zq (bI_f (hn))) (nx := 2) rfl ?_
        refine qW.blk rfl ?_
        refine qv_iconst (v := (-1)) rfl ?_
        refine qv_iret (rfl) ?_
        exact fin
      · refine qW.blk rfl ?_
        refine qv_aload rfl ?_
        refine qv_gr ly_8 ⟨rfl, rfl, rfl⟩ (by omega) ?_
        refine qv_iload rfl ?_
        refine qv_virtE (ly_9.rcv _) sg_Chamber_memberAt rfl rfl (r_memberAt_n hP (by omega) hJ.1.2.2.1 hM hm) ?_
        refine qv_astoreN (L' := [_, _, _, _, _]) rfl ?_
        refine qv_aloadN rfl ?_
        refine qv_null_t (tgt := 2) rfl ?_
        refine qW.blk rfl ?_
        refine qv_iconst (v := (-1)) rfl ?_
        refine qv_iret (rfl) ?_
        exact fin
    · intro s Q hJ hk
      have fin := hk (uF s 163 0 0) hJ.thr ((qfr.rf s).uF (by omega))
      refine qP.of (L := [_, _, _, _]) (by omega) (hP _ rfl) ms_Model_bought rfl ?_
      show qW X PR (d - 1) (some .int) cd_Model_bought 0 _ _ _ _
      rcases pl_of a (aC A 2) with hm | hm
      · have hn : ¬ (0 ≤ n ∧ n ≤ nI 6) := fun z => h0 ⟨hm, (in_nI (n := 6) (by omega)).mp z⟩
        refine qW.blk rfl ?_
        refine qv_aload rfl ?_
        refine qv_iconst (v := 0) rfl ?_
        refine qv_pi ly_163 ⟨rfl, rfl, rfl⟩ (rfl) ?_
        refine qv_aload rfl ?_
        refine qv_iload rfl ?_
        refine qv_virtE (ly_163.rcv _) sg_Model_isMember rfl rfl (r_M_isMember hP (by omega) a (hJ.thr.1 2 (by decide))) ?_
        refine qv_if_eq_f (bI_ne.mpr ((in_nI1 (by omega)).mpr hm)) (nx := 1) rfl ?_
        refine qW.blk rfl ?_
        refine qv_iload rfl ?_
        refine qv_staticE sg_Model_isEnd rfl (r_Model_isEnd hP (by omega) n _) ?_
        refine qv_if_ne_f (fun zq => zq (bI_f (hn))) (nx := 2) rfl ?_
        refine qW.blk rfl ?_
        refine qv_iconst (v := (-1)) rfl ?_
        refine qv_iret (rfl) ?_
        exact fin
      · refine qW.blk rfl ?_
        refine qv_aload rfl ?_
        refine qv_iconst (v := 0) rfl ?_
        refine qv_pi ly_163 ⟨rfl, rfl, rfl⟩ (rfl) ?_
        refine qv_aload rfl ?_
        refine qv_iload rfl ?_
        refine qv_virtE (ly_163.rcv _) sg_Model_isMember rfl rfl (r_M_isMember hP (by omega) a (hJ.thr.1 2 (by decide))) ?_
        refine qv_if_eq_t (bI_f (fun z => hm ((in_nI1 (by omega)).mp z))) (tgt := 2) rfl ?_
        refine qW.blk rfl ?_
        refine qv_iconst (v := (-1)) rfl ?_
        refine qv_iret (rfl) ?_
        exact fin
end
