/-! of, ifAll, finds are alike -/
/-- the reference's other suppositions are none -/
def rne (s : QST) (q : Nat) : Prop := (q ≠ 28 → qF s 163 28 = -1) ∧ (q ≠ 29 → qF s 163 29 = 0) ∧ (q ≠ 30 → qF s 163 30 = 0) ∧ (q ≠ 31 → qF s 163 31 = -1) ∧ (q ≠ 33 → qF s 163 33 = 0) ∧ (q ≠ 35 → qF s 163 35 = 0)
/-- what the reference may change for an answer, int q apart -/
def kfr (q : Nat) (s s' : QST) : Prop := qfr 163 202 s s' ∧ (∀ c, (164 ≤ c ∧ c ≤ 172) ∨ (196 ≤ c ∧ c ≤ 200) → qE s' c = qE s c) ∧ qL s' 201 = qL s 201 ∧ ∀ k, k ≠ q → k = 3 ∨ k = 28 ∨ k = 29 ∨ k = 30 ∨ k = 31 ∨ k = 33 ∨ k = 35 → qF s' 163 k = qF s 163 k
theorem rfr.k {q : Nat} {s s' : QST} (h : rfr s s') : kfr q s s' := ⟨h.1, h.2.1, h.2.2.1, fun k _ hk => h.2.2.2 k hk⟩
theorem kfr.trans {q : Nat} {s t u : QST} (h : kfr q s t) (g : kfr q t u) : kfr q s u := ⟨h.1.trans g.1, fun c hc => (g.2.1 c hc).trans (h.2.1 c hc), g.2.2.1.trans h.2.2.1, fun k hq hk => (g.2.2.2 k hq hk).trans (h.2.2.2 k hq hk)⟩
theorem kfr.rf (q : Nat) (s : QST) : kfr q s s := (rfr.rf s).k
theorem kfr.sF {q k : Nat} {s t : QST} {v : Int32} (h : kfr q s t) (hk : k = q ∨ ¬ (k = 3 ∨ k = 28 ∨ k = 29 ∨ k = 30 ∨ k = 31 ∨ k = 33 ∨ k = 35)) : kfr q s (uF t 163 k v) := h.trans ⟨(qfr.rf t).uF (by omega), fun _ _ => rfl, rfl, fun j hq hj => qF_uFk (by omega)⟩
theorem kfr.sE {q c k : Nat} {s t : QST} {v : Int32} (h : kfr q s t) (hc : 173 ≤ c ∧ c ≤ 195) : kfr q s (uE t c k v) := h.trans ⟨(qfr.rf t).uE (by omega), fun _ _ => qE_uEc (by omega), rfl, fun _ _ _ => rfl⟩
theorem kfr.e {q : Nat} {s t u : QST} (h : kfr q s t) (g : efr t u) : kfr q s u := h.trans g.r.k
theorem kfr.done {q : Nat} {s s' : QST} (h : kfr q s s') (h0 : qF s' 163 q = qF s 163 q) : rfr s s' := ⟨h.1, h.2.1, h.2.2.1, fun k hk => by
  by_cases e : k = q
  · subst e; exact h0
  · exact h.2.2.2 k e hk⟩
theorem rneu.ne {q : Nat} {s s' : QST} (h : rneu s) (F : kfr q s s') : rne s' q := by
  obtain ⟨n1, n2, n3, n4, n5, n6⟩ := h
  exact ⟨fun z => by rw [F.2.2.2 28 (Ne.symm z) (by omega)]; exact n1, fun z => by rw [F.2.2.2 29 (Ne.symm z) (by omega)]; exact n2, fun z => by rw [F.2.2.2 30 (Ne.symm z) (by omega)]; exact n3, fun z => by rw [F.2.2.2 31 (Ne.symm z) (by omega)]; exact n4, fun z => by rw [F.2.2.2 33 (Ne.symm z) (by omega)]; exact n5, fun z => by rw [F.2.2.2 35 (Ne.symm z) (by omega)]; exact n6⟩
theorem rview_all {s : QST} {C : Nat → Nat} (h' : rC s 164 C) (hC : CB C) (hn : rne s 28) {k : Nat} (hk : k < 2) (i28 : qF s 163 28 = nI k) : rview s (C 2) (wAll (cvw C) k) := by
  obtain ⟨n1, n2, n3, n4, n5, n6⟩ := hn
  have hM := hC.2.2.2.1
  have i33 : qF s 163 33 = nI 0 := n5 (by decide)
  have i30 : qF s 163 30 = nI 0 := n3 (by decide)
  have i31 := n4 (by decide)
  have i35 := n6 (by decide)
  have ek : ∀ m, v_kin (qF s 163) (fun j => qE s (164 + j)) m = nI k := fun m => by
    unfold v_kin; rw [i28, if_neg (nI_pos (by omega))]
  refine ⟨rvw_of h' hC i35 rfl rfl (fun m hm => ek m) (fun m hm => rfl) (fun m hm => ?_) (fun m hm => rfl) (fun m hm => ?_) (fun m e hm he => ?_), v_ok_C h' hM i35, fun m hm hk2 => ?_⟩
  · rw [v_par_0 h' i33 (by decide) (by omega), if_neg (btn0 m)]; rfl
  · rw [v_end_0 h' i33 (by decide) (by omega), if_neg (btn0 m)]; rfl
  · rw [v_wis_0 h' i35 i30 (by decide) (by omega) he, i31, if_neg (nI_ne_m1 (by omega)), if_neg (btn0 m)]; rfl
  · rw [ek] at hk2
    have := (nI_eq (a := k) (b := 2) (by omega) (by omega)).mp hk2
    omega
/-- a state of the reference that supposes by int q -/
theorem JR.k {q : Nat} {s s' : QST} {A : AS} (h : JR s A) (F : kfr q s s') : rC s' 164 (aC A) ∧ (∀ t, t < aC A 3 → rTD s' t (aT A t)) ∧ rne s' q := ⟨h.1.cg (F.2.1 _ (by omega)), fun t ht => (h.2.2.2.1 t ht).cg (fun c hc => F.2.1 c (by omega)), h.2.2.2.2.2.ne F⟩
theorem JR.kd {q : Nat} {s s' : QST} {A : AS} (h : JR s A) (F : kfr q s s') (h0 : qF s' 163 q = qF s 163 q) : JR s' A := h.fr (F.done h0)
section
variable {X : pm_X} {PR : pm_P}
theorem w_comesIfAllX (hP : pm_np PR) {d : Nat} (hd : 7 ≤ d) {s : QST} {Q : QPost} {C : Nat → Nat} (hc : cC s 9 C) (hC : CB C) {D : TD} (hD : tdOK D) {T k : Nat} (hT : cTD (qR s) T D) (hk2 : k < 2) (hk : ∀ s' p, qfr 74 110 s s' → (∀ n, n < D.2.2.2.1 → hna s' p D.1 n (gval (wAll (cvw C) k) D.2.1 (D.2.2.1 n))) → qE s' 83 = qE s 83 → Q (some (.int (nI (gval (wAll (cvw C) k) D.2.1 (D.2.2.2.1 - 1)).2.1))) s') : qP X PR d 131 [.ref 8, .ref T, .int (nI k)] s Q := by
  refine qP.of (L := [_, _, _]) (by omega) (hP _ rfl) ms_Desk_comesIfAll rfl ?_
  show qW X PR (d - 1) (some .int) cd_Desk_comesIfAll 0 _ _ _ _
  refine qW.blk rfl ?_
  refine qv_aload rfl ?_
  refine qv_gr ly_8 ⟨rfl, rfl, rfl⟩ (by omega) ?_
  refine qv_aload rfl ?_
  refine qv_gr ly_8 ⟨rfl, rfl, rfl⟩ (by omega) ?_
  refine qv_virt (ly_74.rcv _) sg_Hall_seat rfl rfl (w_Hall_seatX hP (by omega) hc hC (fun s1 p F1 m1 v1 e1 => ?_)) 
  refine qv_aload rfl ?_
  refine qv_gr ly_8 ⟨rfl, rfl, rfl⟩ (by omega) ?_
  refine qv_iload rfl ?_
  refine qv_virt (ly_74.rcv _) sg_Hall_makeAll rfl rfl (w_Hall_makeAllX hP (by omega) m1 v1.1 (fun s2 F2 m2 => ?_)) 
  refine qv_aload rfl ?_
  refine qv_gr ly_8 ⟨rfl, rfl, rfl⟩ (by omega) ?_
  refine qv_aload rfl ?_
  refine qv_virt (ly_74.rcv _) sg_Hall_settle rfl rfl (w_settleT hP (by omega) (m2.ok (wAll_ok v1 hk2)) hD (by rw [F2.R, F1.R]; exact hT) (tdE hD) (m2.ve (wAll_ok v1 hk2)) (fun s3 F3 h3 => ?_)) 
  refine qv_iret (rfl) ?_
  exact hk s3 p ((F1.trans (F2.mono (by omega) (by omega))).trans (F3.mono (by omega) (by omega))) h3 ((F3.E (by omega)).trans ((F2.E (by omega)).trans e1))
theorem w_comesIfAll (hP : pm_np PR) {d : Nat} (hd : 7 ≤ d) {s : QST} {Q : QPost} {C : Nat → Nat} (hc : cC s 9 C) (hC : CB C) {D : TD} (hD : tdOK D) {T k : Nat} (hT : cTD (qR s) T D) (hk2 : k < 2) (hk : ∀ s' p, qfr 74 110 s s' → (∀ n, n < D.2.2.2.1 → hna s' p D.1 n (gval (wAll (cvw C) k) D.2.1 (D.2.2.1 n))) → Q (some (.int (nI (gval (wAll (cvw C) k) D.2.1 (D.2.2.2.1 - 1)).2.1))) s') : qP X PR d 131 [.ref 8, .ref T, .int (nI k)] s Q := w_comesIfAllX hP hd hc hC hD hT hk2 (fun s' p h1 h2 _ => hk s' p h1 h2)
theorem Sim_ifAll (hP : pm_np PR) (t w : Int32) : Sim X PR 130 215 [.int t, .int w] := by
  intro d A hd hA
  have hC := hA.1
  have h12 := hC.2.2.2.2.1
  by_cases h0 : (∃ k, k < aC A 3 ∧ t = nI k) ∧ ∃ j, j ≤ 1 ∧ w = nI j
  · obtain ⟨⟨k, hk3, rfl⟩, j, hj, rfl⟩ := h0
    have hD := hA.2.2.2.1 k hk3
    have ij : nI 0 ≤ nI j ∧ nI j ≤ nI 1 := (w_iff (by omega) (by omega) (by omega)).mpr ⟨by omega, hj⟩
    refine ⟨.int (nI (gval (wAll (cvw (aC A)) j) (aT A k).2.1 ((aT A k).2.2.2.1 - 1)).2.1), A, hA, ?_, ?_⟩
    · intro s Q hJ hk
      obtain ⟨T, hT1, hT2⟩ := hJ.2.2.2.1 k hk3
      refine qP.of (L := [_, _, _, _]) (by omega) (hP _ rfl) ms_Desk_ifAll rfl ?_
      show qW X PR (d - 1) (some .int) cd_Desk_ifAll 0 _ _ _ _
      refine qW.blk rfl ?_
      refine qv_aload rfl ?_
      refine qv_gr ly_8 ⟨rfl, rfl, rfl⟩ (by omega) ?_
      refine qv_iload rfl ?_
      refine qv_virtE (ly_9.rcv _) sg_Chamber_treeAt rfl rfl (r_treeAt_y hP (by omega) hJ.1.2.2.2.1 h12 hk3 hT1) ?_
      refine qv_astore (L' := [_, _, _, _]) rfl ?_
      refine qv_aload rfl ?_
      refine qv_null_f (nx := 1) rfl ?_
      refine qW.blk rfl ?_
      refine qv_iload rfl ?_
      refine qv_iconst (v := 0) rfl ?_
      refine qv_iconst (v := 1) rfl ?_
      refine qv_staticE sg_Desk_within rfl (r_Desk_within hP (by omega) (nI j) (nI 0) (nI 1) _) ?_
      refine qv_if_ne_t (bI_ne.mpr (ij)) (tgt := 3) rfl ?_
      refine qW.blk rfl ?_
      refine qv_aload rfl ?_
      refine qv_aload rfl ?_
      refine qv_iload rfl ?_
      refine qv_virt (ly_8.rcv _) sg_Desk_comesIfAll rfl rfl (w_comesIfAll hP (by omega) hJ.1 hC hD hT2 (by omega) (fun s1 p F1 h1 => ?_)) 
      refine qv_iret (rfl) ?_
      exact hk _ (hJ.fr hA F1 (by omega)) (F1.c (by omega) (by omega))
    · intro s Q hJ hk
      have J1 := hJ.thr (v := 0)
      have F0 := (kfr.rf 28 (uF s 163 0 0)).sF (k := 28) (v := nI j) (by omega)
      have K0 := J1.k F0
      refine qP.of (L := [_, _, _, _]) (by omega) (hP _ rfl) ms_Model_ifAll rfl ?_
      show qW X PR (d - 1) (some .int) cd_Model_ifAll 0 _ _ _ _
      refine qW.blk rfl ?_
      refine qv_aload rfl ?_
      refine qv_iconst (v := 0) rfl ?_
      refine qv_pi ly_163 ⟨rfl, rfl, rfl⟩ (rfl) ?_
      refine qv_aload rfl ?_
      refine qv_iload rfl ?_
      refine qv_virtE (ly_163.rcv _) sg_Model_isTree rfl rfl (r_M_isTree hP (by omega) (nI k) (J1.1 3 (by decide))) ?_
      refine qv_if_eq_f (bI_ne.mpr ((in_nI1 (by omega)).mpr ⟨k, hk3, rfl⟩)) (nx := 1) rfl ?_
      refine qW.blk rfl ?_
      refine qv_iload rfl ?_
      refine qv_iconst (v := 0) rfl ?_
      refine qv_iconst (v := 1) rfl ?_
      refine qv_staticE sg_Model_in rfl (r_Model_in hP (by omega) (nI j) (nI 0) (nI 1) _) ?_
      refine qv_if_ne_t (bI_ne.mpr (ij)) (tgt := 3) rfl ?_
      refine qW.blk rfl ?_
      refine qv_aload rfl ?_
      refine qv_iload rfl ?_
      refine qv_pi ly_163 ⟨rfl, rfl, rfl⟩ (rfl) ?_
      refine qv_aload rfl ?_
      refine qv_iload rfl ?_
      refine qv_virt (ly_163.rcv _) sg_Model_endOf rfl rfl (w_M_endOf hP (by omega) (rview_all K0.1 hC K0.2.2 (by omega) qF_uFs) (by omega) hD (K0.2.1 k hk3) (fun s1 F1 g1 g2 g3 => ?_)) 
      refine qv_istore (L' := [_, _, _, _]) rfl ?_
      refine qv_aload rfl ?_
      refine qv_iconst (v := (-1)) rfl ?_
      refine qv_pi ly_163 ⟨rfl, rfl, rfl⟩ (rfl) ?_
      refine qv_iload rfl ?_
      refine qv_iret (rfl) ?_
      have F := ((F0.e F1).sF (k := 28) (v := -1) (by omega)).done (by rw [qF_uFs]; exact J1.2.2.2.2.2.1.symm)
      exact hk _ (J1.fr F) (((qfr.rf s).uF (by omega)).trans F.1)
  · refine ⟨.int (-1), A, hA, ?_, ?_⟩
    · intro s Q hJ hk
      have fin := hk s hJ (cfr.rf s)
      refine qP.of (L := [_, _, _, _]) (by omega) (hP _ rfl) ms_Desk_ifAll rfl ?_
      show qW X PR (d - 1) (some .int) cd_Desk_ifAll 0 _ _ _ _
      rcases pl_of t (aC A 3) with ⟨k, hk3, rfl⟩ | hn
      · obtain ⟨T, hT1, hT2⟩ := hJ.2.2.2.1 k hk3
        have hj : ¬ (0 ≤ w ∧ w ≤ nI 1) := fun z => h0 ⟨⟨k, hk3, rfl⟩, (in_nI (n := 1) (by omega)).mp z⟩
        refine qW.blk rfl ?_
        refine qv_aload rfl ?_
        refine qv_gr ly_8 ⟨rfl, rfl, rfl⟩ (by omega) ?_
        refine qv_iload rfl ?_
        refine qv_virtE (ly_9.rcv _) sg_Chamber_treeAt rfl rfl (r_treeAt_y hP (by omega) hJ.1.2.2.2.1 h12 hk3 hT1) ?_
        refine qv_astore (L' := [_, _, _, _]) rfl ?_
        refine qv_aload rfl ?_
        refine qv_null_f (nx := 1) rfl ?_
        refine qW.blk rfl ?_
        refine qv_iload rfl ?_
        refine qv_iconst (v := 0) rfl ?_
        refine qv_iconst (v := 1) rfl ?_
        refine qv_staticE sg_Desk_within rfl (r_Desk_within hP (by omega) w 0 (nI 1) _) ?_
        refine qv_if_ne_f (fun zq => zq (bI_f (hj))) (nx := 2) rfl ?_
        refine qW.blk rfl ?_
        refine qv_iconst (v := (-1)) rfl ?_
        refine qv_iret (rfl) ?_
        exact fin
      · refine qW.blk rfl ?_
        refine qv_aload rfl ?_
        refine qv_gr ly_8 ⟨rfl, rfl, rfl⟩ (by omega) ?_
        refine qv_iload rfl ?_
        refine qv_virtE (ly_9.rcv _) sg_Chamber_treeAt rfl rfl (r_treeAt_n hP (by omega) hJ.1.2.2.2.1 h12 hn) ?_
        refine qv_astoreN (L' := [_, _, _, _]) rfl ?_
        refine qv_aloadN rfl ?_
        refine qv_null_t (tgt := 2) rfl ?_
        refine qW.blk rfl ?_
        refine qv_iconst (v := (-1)) rfl ?_
        refine qv_iret (rfl) ?_
        exact fin
    · intro s Q hJ hk
      have fin := hk (uF s 163 0 0) hJ.thr ((qfr.rf s).uF (by omega))
      refine qP.of (L := [_, _, _, _]) (by omega) (hP _ rfl) ms_Model_ifAll rfl ?_
      show qW X PR (d - 1) (some .int) cd_Model_ifAll 0 _ _ _ _
      rcases pl_of t (aC A 3) with hm | hn
      · have hj : ¬ (0 ≤ w ∧ w ≤ nI 1) := fun z => h0 ⟨hm, (in_nI (n := 1) (by omega)).mp z⟩
        refine qW.blk rfl ?_
        refine qv_aload rfl ?_
        refine qv_iconst (v := 0) rfl ?_
        refine qv_pi ly_163 ⟨rfl, rfl, rfl⟩ (rfl) ?_
        refine qv_aload rfl ?_
        refine qv_iload rfl ?_
        refine qv_virtE (ly_163.rcv _) sg_Model_isTree rfl rfl (r_M_isTree hP (by omega) t (hJ.thr.1 3 (by decide))) ?_
        refine qv_if_eq_f (bI_ne.mpr ((in_nI1 (by omega)).mpr hm)) (nx := 1) rfl ?_
        refine qW.blk rfl ?_
        refine qv_iload rfl ?_
        refine qv_iconst (v := 0) rfl ?_
        refine qv_iconst (v := 1) rfl ?_
        refine qv_staticE sg_Model_in rfl (r_Model_in hP (by omega) w 0 (nI 1) _) ?_
        refine qv_if_ne_f (fun zq => zq (bI_f (hj))) (nx := 2) rfl ?_
        refine qW.blk rfl ?_
        refine qv_iconst (v := (-1)) rfl ?_
        refine qv_iret (rfl) ?_
        exact fin
      · refine qW.blk rfl ?_
        refine qv_aload rfl ?_
        refine qv_iconst (v := 0) rfl ?_
        refine qv_pi ly_163 ⟨rfl, rfl, rfl⟩ (rfl) ?_
        refine qv_aload rfl ?_
        refine qv_iload rfl ?_
        refine qv_virtE (ly_163.rcv _) sg_Model_isTree rfl rfl (r_M_isTree hP (by omega) t (hJ.thr.1 3 (by decide))) ?_
        refine qv_if_eq_t (bI_f (fun z => hn ((in_nI1 (by omega)).mp z))) (tgt := 2) rfl ?_
        refine qW.blk rfl ?_
        refine qv_iconst (v := (-1)) rfl ?_
        refine qv_iret (rfl) ?_
        exact fin
theorem gval_lt {W : VW} {D : TD} (hD : tdOK D) (hu : ∀ m, m < gN W → gK W m = 2 → gU W m < 6) : (gval W D.2.1 (D.2.2.2.1 - 1)).2.1 < 7 ∧ (gval W D.2.1 (D.2.2.2.1 - 1)).1 < 7 := by
  have h := (gval_ve (veq.rf W) hu hD.2.2.2.1 (D.2.2.2.1 - 1) (by have := hD.1; omega)).2
  exact ⟨h.2.1, h.1⟩
theorem vok.u {W : VW} {p : Nat} (h : vok W p) : ∀ m, m < gN W → gK W m = 2 → gU W m < 6 := fun m hm hk => by
  have := ((h.2.2 m hm).2.2.2 hk).2
  have := h.2.1
  omega
theorem cvw_ok5 {C : Nat → Nat} (hC : CB C) : vok (cvw C) 5 := cvw_ok hC (Nat.le_refl _) (fun m hm h => by
  have c4 := (hC.2.2.2.2.2 m hm).2.2.2.1
  unfold mostN at c4
  rw [if_pos h] at c4
  omega)
theorem Sim_finds (hP : pm_np PR) (t w : Int32) : Sim X PR 151 247 [.int t, .int w] := by
  intro d A hd hA
  have hC := hA.1
  have h12 := hC.2.2.2.2.1
  by_cases h0 : (∃ k, k < aC A 3 ∧ t = nI k) ∧ ∃ j, j ≤ 6 ∧ w = nI j
  · obtain ⟨⟨k, hk3, rfl⟩, j, hj, rfl⟩ := h0
    have hD := hA.2.2.2.1 k hk3
    have ij : nI 0 ≤ nI j ∧ nI j ≤ nI 6 := (w_iff (by omega) (by omega) (by omega)).mpr ⟨by omega, hj⟩
    obtain ⟨a, ha⟩ : ∃ a, (gval (wAll (cvw (aC A)) 0) (aT A k).2.1 ((aT A k).2.2.2.1 - 1)).2.1 = a := ⟨_, rfl⟩
    obtain ⟨b, hb⟩ : ∃ b, (gval (wAll (cvw (aC A)) 1) (aT A k).2.1 ((aT A k).2.2.2.1 - 1)).2.1 = b := ⟨_, rfl⟩
    have ha7 : a < 7 := by rw [← ha]; exact (gval_lt hD (wAll_ok (cvw_ok5 hC) (by decide)).u).1
    have hb7 : b < 7 := by rw [← hb]; exact (gval_lt hD (wAll_ok (cvw_ok5 hC) (by decide)).u).1
    obtain ⟨pa, hpa⟩ : ∃ pa, (if a = j then 1 else 0) = pa := ⟨_, rfl⟩
    obtain ⟨pb, hpb⟩ : ∃ pb, (if b = j then 2 else 0) = pb := ⟨_, rfl⟩
    refine ⟨.int (nI (pa + pb)), A, hA, ?_, ?_⟩
    · intro s Q hJ hk
      obtain ⟨T, hT1, hT2⟩ := hJ.2.2.2.1 k hk3
      refine qP.of (L := [_, _, _, _, _, _]) (by omega) (hP _ rfl) ms_Desk_finds rfl ?_
      show qW X PR (d - 1) (some .int) cd_Desk_finds 0 _ _ _ _
      have t9 : ∀ (s2 : QST), qfr 74 110 s s2 → qW X PR (d - 1) (some .int) cd_Desk_finds 9 [some (.ref (8)), some (.int (nI k)), some (.int (nI j)), some (.ref (T)), some (.int (nI pa)), none] [.int (nI pb)] s2 Q := by
        intro s2 F2
        refine qW.blk rfl ?_
        refine qv_istore (L' := [_, _, _, _, _, _]) rfl ?_
        refine qv_iload rfl ?_
        refine qv_iload rfl ?_
        refine qv_iaddN rfl rfl ?_
        refine qv_iret (rfl) ?_
        exact hk _ (hJ.fr hA F2 (by omega)) (F2.c (by omega) (by omega))
      have t6 : ∀ (s1 : QST), qfr 74 110 s s1 → qW X PR (d - 1) (some .int) cd_Desk_finds 6 [some (.ref (8)), some (.int (nI k)), some (.int (nI j)), some (.ref (T)), none, none] [.int (nI pa)] s1 Q := by
        intro s1 F1
        have J1 := (hJ.fr hA F1 (by omega)).1
        have T1 : cTD (qR s1) T (aT A k) := by rw [F1.R]; exact hT2
        by_cases e : b = j
        · rw [if_pos e] at hpb
          subst hpb
          refine qW.blk rfl ?_
          refine qv_istore (L' := [_, _, _, _, _, _]) rfl ?_
          refine qv_aload rfl ?_
          refine qv_aload rfl ?_
          refine qv_iconst (v := 1) rfl ?_
          refine qv_virt (ly_8.rcv _) sg_Desk_comesIfAll rfl rfl (w_comesIfAll hP (by omega) J1 hC hD T1 (k := 1) (by omega) (fun s2 p F2 h2 => ?_)) 
          refine qv_iload rfl ?_
          refine qv_icmp_neNf rfl rfl (by omega) (by omega) (by omega) (nx := 7) rfl ?_
          refine qW.blk rfl ?_
          refine qv_iconst (v := 2) rfl ?_
          refine qv_goto (tgt := 9) rfl ?_
          exact t9 s2 (F1.trans F2)
        · rw [if_neg e] at hpb
          subst hpb
          refine qW.blk rfl ?_
          refine qv_istore (L' := [_, _, _, _, _, _]) rfl ?_
          refine qv_aload rfl ?_
          refine qv_aload rfl ?_
          refine qv_iconst (v := 1) rfl ?_
          refine qv_virt (ly_8.rcv _) sg_Desk_comesIfAll rfl rfl (w_comesIfAll hP (by omega) J1 hC hD T1 (k := 1) (by omega) (fun s2 p F2 h2 => ?_)) 
          refine qv_iload rfl ?_
          refine qv_icmp_neNt rfl rfl (by omega) (by omega) (by omega) (tgt := 8) rfl ?_
          refine qW.blk rfl ?_
          refine qv_iconst (v := 0) rfl ?_
          refine qv_nil (nx := 9) rfl ?_
          exact t9 s2 (F1.trans F2)
      by_cases e : a = j
      · rw [if_pos e] at hpa
        subst hpa
        refine qW.blk rfl ?_
        refine qv_aload rfl ?_
        refine qv_gr ly_8 ⟨rfl, rfl, rfl⟩ (by omega) ?_
        refine qv_iload rfl ?_
        refine qv_virtE (ly_9.rcv _) sg_Chamber_treeAt rfl rfl (r_treeAt_y hP (by omega) hJ.1.2.2.2.1 h12 hk3 hT1) ?_
        refine qv_astore (L' := [_, _, _, _, _, _]) rfl ?_
        refine qv_aload rfl ?_
        refine qv_null_f (nx := 1) rfl ?_
        refine qW.blk rfl ?_
        refine qv_iload rfl ?_
        refine qv_staticE sg_Desk_isEnd rfl (r_Desk_isEnd hP (by omega) (nI j) _) ?_
        refine qv_if_ne_t (bI_ne.mpr (ij)) (tgt := 3) rfl ?_
        refine qW.blk rfl ?_
        refine qv_aload rfl ?_
        refine qv_aload rfl ?_
        refine qv_iconst (v := 0) rfl ?_
        refine qv_virt (ly_8.rcv _) sg_Desk_comesIfAll rfl rfl (w_comesIfAll hP (by omega) hJ.1 hC hD hT2 (k := 0) (by omega) (fun s1 p F1 h1 => ?_)) 
        refine qv_iload rfl ?_
        refine qv_icmp_neNf rfl rfl (by omega) (by omega) (by omega) (nx := 4) rfl ?_
        refine qW.blk rfl ?_
        refine qv_iconst (v := 1) rfl ?_
        refine qv_goto (tgt := 6) rfl ?_
        exact t6 s1 F1
      · rw [if_neg e] at hpa
        subst hpa
        refine qW.blk rfl ?_
        refine qv_aload rfl ?_
        refine qv_gr ly_8 ⟨rfl, rfl, rfl⟩ (by omega) ?_
        refine qv_iload rfl ?_
        refine qv_virtE (ly_9.rcv _) sg_Chamber_treeAt rfl rfl (r_treeAt_y hP (by omega) hJ.1.2.2.2.1 h12 hk3 hT1) ?_
        refine qv_astore (L' := [_, _, _, _, _, _]) rfl ?_
        refine qv_aload rfl ?_
        refine qv_null_f (nx := 1) rfl ?_
        refine qW.blk rfl ?_
        refine qv_iload rfl ?_
        refine qv_staticE sg_Desk_isEnd rfl (r_Desk_isEnd hP (by omega) (nI j) _) ?_
        refine qv_if_ne_t (bI_ne.mpr (ij)) (tgt := 3) rfl ?_
        refine qW.blk rfl ?_
        refine qv_aload rfl ?_
        refine qv_aload rfl ?_
        refine qv_iconst (v := 0) rfl ?_
        refine qv_virt (ly_8.rcv _) sg_Desk_comesIfAll rfl rfl (w_comesIfAll hP (by omega) hJ.1 hC hD hT2 (k := 0) (by omega) (fun s1 p F1 h1 => ?_)) 
        refine qv_iload rfl ?_
        refine qv_icmp_neNt rfl rfl (by omega) (by omega) (by omega) (tgt := 5) rfl ?_
        refine qW.blk rfl ?_
        refine qv_iconst (v := 0) rfl ?_
        refine qv_nil (nx := 6) rfl ?_
        exact t6 s1 F1
    · intro s Q hJ hk
      have J1 := hJ.thr (v := 0)
      refine qP.of (L := [_, _, _, _]) (by omega) (hP _ rfl) ms_Model_finds rfl ?_
      show qW X PR (d - 1) (some .int) cd_Model_finds 0 _ _ _ _
      have t9 : ∀ (s2 : QST), kfr 28 (uF s 163 0 0) s2 → qW X PR (d - 1) (some .int) cd_Model_finds 9 [some (.ref (163)), some (.int (nI k)), some (.int (nI j)), some (.int (nI pa))] [.int (nI pb), .int (nI pa)] s2 Q := by
        intro s2 F2
        have F := (F2.sF (k := 28) (v := -1) (by omega)).done (by rw [qF_uFs]; exact J1.2.2.2.2.2.1.symm)
        refine qW.blk rfl ?_
        refine qv_iaddN rfl rfl ?_
        refine qv_istore (L' := [_, _, _, _]) rfl ?_
        refine qv_aload rfl ?_
        refine qv_iconst (v := (-1)) rfl ?_
        refine qv_pi ly_163 ⟨rfl, rfl, rfl⟩ (rfl) ?_
        refine qv_iload rfl ?_
        refine qv_iret (rfl) ?_
        exact hk _ (J1.fr F) (((qfr.rf s).uF (by omega)).trans F.1)
      have t6 : ∀ (s1 : QST), kfr 28 (uF s 163 0 0) s1 → qW X PR (d - 1) (some .int) cd_Model_finds 6 [some (.ref (163)), some (.int (nI k)), some (.int (nI j)), none] [.int (nI pa)] s1 Q := by
        intro s1 F1
        have F2 := F1.sF (k := 28) (v := nI 1) (by omega)
        have K2 := J1.k F2
        have rv := rview_all K2.1 hC K2.2.2 (k := 1) (by omega) qF_uFs
        by_cases e : b = j
        · rw [if_pos e] at hpb
          subst hpb
          refine qW.blk rfl ?_
          refine qv_istore (L' := [_, _, _, _]) rfl ?_
          refine qv_aload rfl ?_
          refine qv_iconst (v := 1) rfl ?_
          refine qv_pi ly_163 ⟨rfl, rfl, rfl⟩ (rfl) ?_
          refine qv_iload rfl ?_
          refine qv_aload rfl ?_
          refine qv_iload rfl ?_
          refine qv_virt (ly_163.rcv _) sg_Model_endOf rfl rfl (w_M_endOf hP (by omega) rv (by omega) hD (K2.2.1 k hk3) (fun s3 F3 g1 g2 g3 => ?_)) 
          refine qv_iload rfl ?_
          refine qv_icmp_neNf rfl rfl (by omega) (by omega) (by omega) (nx := 7) rfl ?_
          refine qW.blk rfl ?_
          refine qv_iconst (v := 2) rfl ?_
          refine qv_goto (tgt := 9) rfl ?_
          exact t9 s3 (F2.e F3)
        · rw [if_neg e] at hpb
          subst hpb
          refine qW.blk rfl ?_
          refine qv_istore (L' := [_, _, _, _]) rfl ?_
          refine qv_aload rfl ?_
          refine qv_iconst (v := 1) rfl ?_
          refine qv_pi ly_163 ⟨rfl, rfl, rfl⟩ (rfl) ?_
          refine qv_iload rfl ?_
          refine qv_aload rfl ?_
          refine qv_iload rfl ?_
          refine qv_virt (ly_163.rcv _) sg_Model_endOf rfl rfl (w_M_endOf hP (by omega) rv (by omega) hD (K2.2.1 k hk3) (fun s3 F3 g1 g2 g3 => ?_)) 
          refine qv_iload rfl ?_
          refine qv_icmp_neNt rfl rfl (by omega) (by omega) (by omega) (tgt := 8) rfl ?_
          refine qW.blk rfl ?_
          refine qv_iconst (v := 0) rfl ?_
          refine qv_nil (nx := 9) rfl ?_
          exact t9 s3 (F2.e F3)
      have F2 := (kfr.rf 28 (uF s 163 0 0)).sF (k := 28) (v := nI 0) (by omega)
      have K2 := J1.k F2
      have rv := rview_all K2.1 hC K2.2.2 (k := 0) (by omega) qF_uFs
      by_cases e : a = j
      · rw [if_pos e] at hpa
        subst hpa
        refine qW.blk rfl ?_
        refine qv_aload rfl ?_
        refine qv_iconst (v := 0) rfl ?_
        refine qv_pi ly_163 ⟨rfl, rfl, rfl⟩ (rfl) ?_
        refine qv_aload rfl ?_
        refine qv_iload rfl ?_
        refine qv_virtE (ly_163.rcv _) sg_Model_isTree rfl rfl (r_M_isTree hP (by omega) (nI k) (J1.1 3 (by decide))) ?_
        refine qv_if_eq_f (bI_ne.mpr ((in_nI1 (by omega)).mpr ⟨k, hk3, rfl⟩)) (nx := 1) rfl ?_
        refine qW.blk rfl ?_
        refine qv_iload rfl ?_
        refine qv_staticE sg_Model_isEnd rfl (r_Model_isEnd hP (by omega) (nI j) _) ?_
        refine qv_if_ne_t (bI_ne.mpr (ij)) (tgt := 3) rfl ?_
        refine qW.blk rfl ?_
        refine qv_aload rfl ?_
        refine qv_iconst (v := 0) rfl ?_
        refine qv_pi ly_163 ⟨rfl, rfl, rfl⟩ (rfl) ?_
        refine qv_aload rfl ?_
        refine qv_iload rfl ?_
        refine qv_virt (ly_163.rcv _) sg_Model_endOf rfl rfl (w_M_endOf hP (by omega) rv (by omega) hD (K2.2.1 k hk3) (fun s3 F3 g1 g2 g3 => ?_)) 
        refine qv_iload rfl ?_
        refine qv_icmp_neNf rfl rfl (by omega) (by omega) (by omega) (nx := 4) rfl ?_
        refine qW.blk rfl ?_
        refine qv_iconst (v := 1) rfl ?_
        refine qv_goto (tgt := 6) rfl ?_
        exact t6 s3 (F2.e F3)
      · rw [if_neg e] at hpa
        subst hpa
        refine qW.blk rfl ?_
        refine qv_aload rfl ?_
        refine qv_iconst (v := 0) rfl ?_
        refine qv_pi ly_163 ⟨rfl, rfl, rfl⟩ (rfl) ?_
        refine qv_aload rfl ?_
        refine qv_iload rfl ?_
        refine qv_virtE (ly_163.rcv _) sg_Model_isTree rfl rfl (r_M_isTree hP (by omega) (nI k) (J1.1 3 (by decide))) ?_
        refine qv_if_eq_f (bI_ne.mpr ((in_nI1 (by omega)).mpr ⟨k, hk3, rfl⟩)) (nx := 1) rfl ?_
        refine qW.blk rfl ?_
        refine qv_iload rfl ?_
        refine qv_staticE sg_Model_isEnd rfl (r_Model_isEnd hP (by omega) (nI j) _) ?_
        refine qv_if_ne_t (bI_ne.mpr (ij)) (tgt := 3) rfl ?_
        refine qW.blk rfl ?_
        refine qv_aload rfl ?_
        refine qv_iconst (v := 0) rfl ?_
        refine qv_pi ly_163 ⟨rfl, rfl, rfl⟩ (rfl) ?_
        refine qv_aload rfl ?_
        refine qv_iload rfl ?_
        refine qv_virt (ly_163.rcv _) sg_Model_endOf rfl rfl (w_M_endOf hP (by omega) rv (by omega) hD (K2.2.1 k hk3) (fun s3 F3 g1 g2 g3 => ?_)) 
        refine qv_iload rfl ?_
        refine qv_icmp_neNt rfl rfl (by omega) (by omega) (by omega) (tgt := 5) rfl ?_
        refine qW.blk rfl ?_
        refine qv_iconst (v := 0) rfl ?_
        refine qv_nil (nx := 6) rfl ?_
        exact t6 s3 (F2.e F3)
  · refine ⟨.int (-1), A, hA, ?_, ?_⟩
    · intro s Q hJ hk
      have fin := hk s hJ (cfr.rf s)
      refine qP.of (L := [_, _, _, _, _, _]) (by omega) (hP _ rfl) ms_Desk_finds rfl ?_
      show qW X PR (d - 1) (some .int) cd_Desk_finds 0 _ _ _ _
      rcases pl_of t (aC A 3) with ⟨k, hk3, rfl⟩ | hn
      · obtain ⟨T, hT1, hT2⟩ := hJ.2.2.2.1 k hk3
        have hj : ¬ (0 ≤ w ∧ w ≤ nI 6) := fun z => h0 ⟨⟨k, hk3, rfl⟩, (in_nI (n := 6) (by omega)).mp z⟩
        refine qW.blk rfl ?_
        refine qv_aload rfl ?_
        refine qv_gr ly_8 ⟨rfl, rfl, rfl⟩ (by omega) ?_
        refine qv_iload rfl ?_
        refine qv_virtE (ly_9.rcv _) sg_Chamber_treeAt rfl rfl (r_treeAt_y hP (by omega) hJ.1.2.2.2.1 h12 hk3 hT1) ?_
        refine qv_astore (L' := [_, _, _, _, _, _]) rfl ?_
        refine qv_aload rfl ?_
        refine qv_null_f (nx := 1) rfl ?_
        refine qW.blk rfl ?_
        refine qv_iload rfl ?_
        refine qv_staticE sg_Desk_isEnd rfl (r_Desk_isEnd hP (by omega) w _) ?_
        refine qv_if_ne_f (fun zq => zq (bI_f (hj))) (nx := 2) rfl ?_
        refine qW.blk rfl ?_
        refine qv_iconst (v := (-1)) rfl ?_
        refine qv_iret (rfl) ?_
        exact fin
      · refine qW.blk rfl ?_
        refine qv_aload rfl ?_
        refine qv_gr ly_8 ⟨rfl, rfl, rfl⟩ (by omega) ?_
        refine qv_iload rfl ?_
        refine qv_virtE (ly_9.rcv _) sg_Chamber_treeAt rfl rfl (r_treeAt_n hP (by omega) hJ.1.2.2.2.1 h12 hn) ?_
        refine qv_astoreN (L' := [_, _, _, _, _, _]) rfl ?_
        refine qv_aloadN rfl ?_
        refine qv_null_t (tgt := 2) rfl ?_
        refine qW.blk rfl ?_
        refine qv_iconst (v := (-1)) rfl ?_
        refine qv_iret (rfl) ?_
        exact fin
    · intro s Q hJ hk
      have fin := hk (uF s 163 0 0) hJ.thr ((qfr.rf s).uF (by omega))
      refine qP.of (L := [_, _, _, _]) (by omega) (hP _ rfl) ms_Model_finds rfl ?_
      show qW X PR (d - 1) (some .int) cd_Model_finds 0 _ _ _ _
      rcases pl_of t (aC A 3) with hm | hn
      · have hj : ¬ (0 ≤ w ∧ w ≤ nI 6) := fun z => h0 ⟨hm, (in_nI (n := 6) (by omega)).mp z⟩
        refine qW.blk rfl ?_
        refine qv_aload rfl ?_
        refine qv_iconst (v := 0) rfl ?_
        refine qv_pi ly_163 ⟨rfl, rfl, rfl⟩ (rfl) ?_
        refine qv_aload rfl ?_
        refine qv_iload rfl ?_
        refine qv_virtE (ly_163.rcv _) sg_Model_isTree rfl rfl (r_M_isTree hP (by omega) t (hJ.thr.1 3 (by decide))) ?_
        refine qv_if_eq_f (bI_ne.mpr ((in_nI1 (by omega)).mpr hm)) (nx := 1) rfl ?_
        refine qW.blk rfl ?_
        refine qv_iload rfl ?_
        refine qv_staticE sg_Model_isEnd rfl (r_Model_isEnd hP (by omega) w _) ?_
        refine qv_if_ne_f (fun zq => zq (bI_f (hj))) (nx := 2) rfl ?_
        refine qW.blk rfl ?_
        refine qv_iconst (v := (-1)) rfl ?_
        refine qv_iret (rfl) ?_
        exact fin
      · refine qW.blk rfl ?_
        refine qv_aload rfl ?_
        refine qv_iconst (v := 0) rfl ?_
        refine qv_pi ly_163 ⟨rfl, rfl, rfl⟩ (rfl) ?_
        refine qv_aload rfl ?_
        refine qv_iload rfl ?_
        refine qv_virtE (ly_163.rcv _) sg_Model_isTree rfl rfl (r_M_isTree hP (by omega) t (hJ.thr.1 3 (by decide))) ?_
        refine qv_if_eq_t (bI_f (fun z => hn ((in_nI1 (by omega)).mp z))) (tgt := 2) rfl ?_
        refine qW.blk rfl ?_
        refine qv_iconst (v := (-1)) rfl ?_
        refine qv_iret (rfl) ?_
        exact fin
theorem Sim_of (hP : pm_np PR) (t w : Int32) : Sim X PR 123 197 [.int t, .int w] := by
  intro d A hd hA
  have hC := hA.1
  have h12 := hC.2.2.2.2.1
  by_cases h0 : (∃ k, k < aC A 3 ∧ t = nI k) ∧ ∃ j, j ≤ 2 ∧ w = nI j
  · obtain ⟨⟨k, hk3, rfl⟩, j, hj, rfl⟩ := h0
    have hD := hA.2.2.2.1 k hk3
    have ij : nI 0 ≤ nI j ∧ nI j ≤ nI 2 := (w_iff (by omega) (by omega) (by omega)).mpr ⟨by omega, hj⟩
    have hK := hD.1
    have hK6 := hD.2.1
    refine ⟨.int (nI (if j = 0 then (aT A k).2.2.2.2.1 else if j = 1 then (aT A k).2.2.2.2.2.1 else (gval (cvw (aC A)) (aT A k).2.1 ((aT A k).2.2.2.1 - 1)).1)), A, hA, ?_, ?_⟩
    · intro s Q hJ hk
      obtain ⟨T, hT1, hT2⟩ := hJ.2.2.2.1 k hk3
      obtain ⟨w', sc, pr, hT3, hT4⟩ := hT2
      have fin := hk s hJ (cfr.rf s)
      refine qP.of (L := [_, _, _, _]) (by omega) (hP _ rfl) ms_Desk_of rfl ?_
      show qW X PR (d - 1) (some .int) cd_Desk_of 0 _ _ _ _
      rcases (show j = 0 ∨ j = 1 ∨ j = 2 by omega) with rfl | rfl | rfl
      · refine qW.blk rfl ?_
        refine qv_aload rfl ?_
        refine qv_gr ly_8 ⟨rfl, rfl, rfl⟩ (by omega) ?_
        refine qv_iload rfl ?_
        refine qv_virtE (ly_9.rcv _) sg_Chamber_treeAt rfl rfl (r_treeAt_y hP (by omega) hJ.1.2.2.2.1 h12 hk3 hT1) ?_
        refine qv_astore (L' := [_, _, _, _]) rfl ?_
        refine qv_aload rfl ?_
        refine qv_nonnull_t (tgt := 2) rfl ?_
        refine qW.blk rfl ?_
        refine qv_iload rfl ?_
        refine qv_table (rfl) (tgt := 3) rfl ?_
        refine qW.blk rfl ?_
        refine qv_aload rfl ?_
        refine qv_gh (hT3.o rfl) rfl rfl ?_
        refine qv_iret (rfl) ?_
        exact fin
      · refine qW.blk rfl ?_
        refine qv_aload rfl ?_
        refine qv_gr ly_8 ⟨rfl, rfl, rfl⟩ (by omega) ?_
        refine qv_iload rfl ?_
        refine qv_virtE (ly_9.rcv _) sg_Chamber_treeAt rfl rfl (r_treeAt_y hP (by omega) hJ.1.2.2.2.1 h12 hk3 hT1) ?_
        refine qv_astore (L' := [_, _, _, _]) rfl ?_
        refine qv_aload rfl ?_
        refine qv_nonnull_t (tgt := 2) rfl ?_
        refine qW.blk rfl ?_
        refine qv_iload rfl ?_
        refine qv_table (rfl) (tgt := 4) rfl ?_
        refine qW.blk rfl ?_
        refine qv_aload rfl ?_
        refine qv_gh (hT3.o rfl) rfl rfl ?_
        refine qv_iret (rfl) ?_
        exact fin
      · refine qW.blk rfl ?_
        refine qv_aload rfl ?_
        refine qv_gr ly_8 ⟨rfl, rfl, rfl⟩ (by omega) ?_
        refine qv_iload rfl ?_
        refine qv_virtE (ly_9.rcv _) sg_Chamber_treeAt rfl rfl (r_treeAt_y hP (by omega) hJ.1.2.2.2.1 h12 hk3 hT1) ?_
        refine qv_astore (L' := [_, _, _, _]) rfl ?_
        refine qv_aload rfl ?_
        refine qv_nonnull_t (tgt := 2) rfl ?_
        refine qW.blk rfl ?_
        refine qv_iload rfl ?_
        refine qv_table (rfl) (tgt := 5) rfl ?_
        refine qW.blk rfl ?_
        refine qv_aload rfl ?_
        refine qv_gr ly_8 ⟨rfl, rfl, rfl⟩ (by omega) ?_
        refine qv_aload rfl ?_
        refine qv_gr ly_8 ⟨rfl, rfl, rfl⟩ (by omega) ?_
        refine qv_virt (ly_74.rcv _) sg_Hall_seat rfl rfl (w_Hall_seat hP (by omega) hJ.1 hC (fun s1 p F1 m1 v1 => ?_))
        refine qv_aload rfl ?_
        refine qv_gr ly_8 ⟨rfl, rfl, rfl⟩ (by omega) ?_
        refine qv_aload rfl ?_
        refine qv_virt (ly_74.rcv _) sg_Hall_settle rfl rfl (w_settleT hP (by omega) (m1.ok v1) hD (by rw [F1.R]; exact ⟨w', sc, pr, hT3, hT4⟩) (tdE hD) (m1.ve v1) (fun s2 F2 h2 => ?_))
        refine qv_pop rfl ?_
        refine qv_aload rfl ?_
        refine qv_gr ly_8 ⟨rfl, rfl, rfl⟩ (by omega) ?_
        refine qv_gr ly_74 ⟨rfl, rfl, rfl⟩ (by omega) ?_
        refine qv_iconst (v := 0) rfl ?_
        have h3 := (h2 0 hK).1.2.1
        rw [hD.2.2.2.2.1.1] at h3
        refine qv_ia (j := 0) ly_76 rfl (by omega) (by decide) h3 ?_
        refine qv_iret (rfl) ?_
        have F := F1.trans (F2.mono (lo' := 74) (hi' := 110) (by omega) (by omega))
        exact hk s2 (hJ.fr hA F (by omega)) (F.c (by omega) (by omega))
    · intro s Q hJ hk
      have J1 := hJ.thr (v := 0)
      have rv := rview_neu J1.1 hC J1.2.2.2.2.2
      have hne := gval_ve (veq.rf (cvw (aC A))) (cvw_ok5 hC).u hD.2.2.2.1 ((aT A k).2.2.2.1 - 1) (by omega)
      refine qP.of (L := [_, _, _]) (by omega) (hP _ rfl) ms_Model_of rfl ?_
      show qW X PR (d - 1) (some .int) cd_Model_of 0 _ _ _ _
      rcases (show j = 0 ∨ j = 1 ∨ j = 2 by omega) with rfl | rfl | rfl
      · refine qW.blk rfl ?_
        refine qv_aload rfl ?_
        refine qv_iconst (v := 0) rfl ?_
        refine qv_pi ly_163 ⟨rfl, rfl, rfl⟩ (rfl) ?_
        refine qv_aload rfl ?_
        refine qv_iload rfl ?_
        refine qv_virtE (ly_163.rcv _) sg_Model_isTree rfl rfl (r_M_isTree hP (by omega) (nI k) (J1.1 3 (by decide))) ?_
        refine qv_if_eq_f (bI_ne.mpr ((in_nI1 (by omega)).mpr ⟨k, hk3, rfl⟩)) (nx := 1) rfl ?_
        refine qW.blk rfl ?_
        refine qv_iload rfl ?_
        refine qv_iconst (v := 0) rfl ?_
        refine qv_iconst (v := 2) rfl ?_
        refine qv_staticE sg_Model_in rfl (r_Model_in hP (by omega) (nI 0) (nI 0) (nI 2) _) ?_
        refine qv_if_ne_t (bI_ne.mpr (ij)) (tgt := 3) rfl ?_
        refine qW.blk rfl ?_
        refine qv_iload rfl ?_
        refine qv_if_neNf rfl (by omega) (by omega) (nx := 4) rfl ?_
        refine qW.blk rfl ?_
        refine qv_aload rfl ?_
        refine qv_gr ly_163 ⟨rfl, rfl, rfl⟩ (by omega) ?_
        refine qv_iload rfl ?_
        refine qv_ia ly_167 rfl (by omega) (by decide) ((J1.2.2.2.1 k hk3).2) ?_
        refine qv_iret (rfl) ?_
        exact hk _ J1 ((qfr.rf s).uF (by omega))
      · refine qW.blk rfl ?_
        refine qv_aload rfl ?_
        refine qv_iconst (v := 0) rfl ?_
        refine qv_pi ly_163 ⟨rfl, rfl, rfl⟩ (rfl) ?_
        refine qv_aload rfl ?_
        refine qv_iload rfl ?_
        refine qv_virtE (ly_163.rcv _) sg_Model_isTree rfl rfl (r_M_isTree hP (by omega) (nI k) (J1.1 3 (by decide))) ?_
        refine qv_if_eq_f (bI_ne.mpr ((in_nI1 (by omega)).mpr ⟨k, hk3, rfl⟩)) (nx := 1) rfl ?_
        refine qW.blk rfl ?_
        refine qv_iload rfl ?_
        refine qv_iconst (v := 0) rfl ?_
        refine qv_iconst (v := 2) rfl ?_
        refine qv_staticE sg_Model_in rfl (r_Model_in hP (by omega) (nI 1) (nI 0) (nI 2) _) ?_
        refine qv_if_ne_t (bI_ne.mpr (ij)) (tgt := 3) rfl ?_
        refine qW.blk rfl ?_
        refine qv_iload rfl ?_
        refine qv_if_neNt rfl (by omega) (by omega) (tgt := 5) rfl ?_
        refine qW.blk rfl ?_
        refine qv_aload rfl ?_
        refine qv_iload rfl ?_
        refine qv_virt (ly_163.rcv _) sg_Model_endOf rfl rfl (w_M_endOf hP (by omega) rv (by omega) hD (J1.2.2.2.1 k hk3) (fun s1 F1 g1 g2 g3 => ?_)) 
        refine qv_pop rfl ?_
        refine qv_iload rfl ?_
        refine qv_iconst (v := 1) rfl ?_
        refine qv_icmp_neNf (q := 1) rfl rfl (by omega) (by omega) (by omega) (nx := 6) rfl ?_
        obtain ⟨v, v1, v2⟩ := g3 ((aT A k).2.2.2.1 - 1) (by omega)
        have v3 : qE s1 185 ((aT A k).2.2.2.1 - 1) = nI (aT A k).2.2.2.2.2.1 := by
          rw [show qE s1 185 ((aT A k).2.2.2.1 - 1) = v.2.2.2.1 from v2.1.2.2.2.2.2.2, v1.2.2.2]
          exact hD.2.2.2.2.2.2.2.2.2 _
        refine qW.blk rfl ?_
        refine qv_aload rfl ?_
        refine qv_gr ly_163 ⟨rfl, rfl, rfl⟩ (by omega) ?_
        refine qv_aload rfl ?_
        refine qv_gi ly_163 ⟨rfl, rfl, rfl⟩ (g1) ?_
        refine qv_iconst (v := 1) rfl ?_
        refine qv_isubN (q := 1) rfl rfl (by omega) ?_
        refine qv_ia ly_185 rfl (by omega) (by decide) (v3) ?_
        refine qv_goto (tgt := 8) rfl ?_
        refine qW.blk rfl ?_
        refine qv_iret (rfl) ?_
        exact hk _ (J1.fr F1.r) (((qfr.rf s).uF (by omega)).trans F1.1)
      · refine qW.blk rfl ?_
        refine qv_aload rfl ?_
        refine qv_iconst (v := 0) rfl ?_
        refine qv_pi ly_163 ⟨rfl, rfl, rfl⟩ (rfl) ?_
        refine qv_aload rfl ?_
        refine qv_iload rfl ?_
        refine qv_virtE (ly_163.rcv _) sg_Model_isTree rfl rfl (r_M_isTree hP (by omega) (nI k) (J1.1 3 (by decide))) ?_
        refine qv_if_eq_f (bI_ne.mpr ((in_nI1 (by omega)).mpr ⟨k, hk3, rfl⟩)) (nx := 1) rfl ?_
        refine qW.blk rfl ?_
        refine qv_iload rfl ?_
        refine qv_iconst (v := 0) rfl ?_
        refine qv_iconst (v := 2) rfl ?_
        refine qv_staticE sg_Model_in rfl (r_Model_in hP (by omega) (nI 2) (nI 0) (nI 2) _) ?_
        refine qv_if_ne_t (bI_ne.mpr (ij)) (tgt := 3) rfl ?_
        refine qW.blk rfl ?_
        refine qv_iload rfl ?_
        refine qv_if_neNt rfl (by omega) (by omega) (tgt := 5) rfl ?_
        refine qW.blk rfl ?_
        refine qv_aload rfl ?_
        refine qv_iload rfl ?_
        refine qv_virt (ly_163.rcv _) sg_Model_endOf rfl rfl (w_M_endOf hP (by omega) rv (by omega) hD (J1.2.2.2.1 k hk3) (fun s1 F1 g1 g2 g3 => ?_)) 
        refine qv_pop rfl ?_
        refine qv_iload rfl ?_
        refine qv_iconst (v := 1) rfl ?_
        refine qv_icmp_neNt (q := 1) rfl rfl (by omega) (by omega) (by omega) (tgt := 7) rfl ?_
        obtain ⟨v, v1, v2⟩ := g3 ((aT A k).2.2.2.1 - 1) (by omega)
        have v3 : qE s1 184 ((aT A k).2.2.2.1 - 1) = nI (gval (cvw (aC A)) (aT A k).2.1 ((aT A k).2.2.2.1 - 1)).1 := by
          rw [show qE s1 184 ((aT A k).2.2.2.1 - 1) = nI v.1 from v2.1.2.1, v1.1]
        refine qW.blk rfl ?_
        refine qv_aload rfl ?_
        refine qv_gr ly_163 ⟨rfl, rfl, rfl⟩ (by omega) ?_
        refine qv_aload rfl ?_
        refine qv_gi ly_163 ⟨rfl, rfl, rfl⟩ (g1) ?_
        refine qv_iconst (v := 1) rfl ?_
        refine qv_isubN (q := 1) rfl rfl (by omega) ?_
        refine qv_ia ly_184 rfl (by omega) (by decide) (v3) ?_
        refine qv_nil (nx := 8) rfl ?_
        refine qW.blk rfl ?_
        refine qv_iret (rfl) ?_
        exact hk _ (J1.fr F1.r) (((qfr.rf s).uF (by omega)).trans F1.1)
  · refine ⟨.int (-1), A, hA, ?_, ?_⟩
    · intro s Q hJ hk
      have fin := hk s hJ (cfr.rf s)
      refine qP.of (L := [_, _, _, _]) (by omega) (hP _ rfl) ms_Desk_of rfl ?_
      show qW X PR (d - 1) (some .int) cd_Desk_of 0 _ _ _ _
      rcases pl_of t (aC A 3) with ⟨k, hk3, rfl⟩ | hn
      · obtain ⟨T, hT1, hT2⟩ := hJ.2.2.2.1 k hk3
        have hj : ¬ (0 ≤ w ∧ w ≤ nI 2) := fun z => h0 ⟨⟨k, hk3, rfl⟩, (in_nI (n := 2) (by omega)).mp z⟩
        refine qW.blk rfl ?_
        refine qv_aload rfl ?_
        refine qv_gr ly_8 ⟨rfl, rfl, rfl⟩ (by omega) ?_
        refine qv_iload rfl ?_
        refine qv_virtE (ly_9.rcv _) sg_Chamber_treeAt rfl rfl (r_treeAt_y hP (by omega) hJ.1.2.2.2.1 h12 hk3 hT1) ?_
        refine qv_astore (L' := [_, _, _, _]) rfl ?_
        refine qv_aload rfl ?_
        refine qv_nonnull_t (tgt := 2) rfl ?_
        refine qW.blk rfl ?_
        refine qv_iload rfl ?_
        refine qv_table (tab_o (n := 2) (by omega) hj) (tgt := 6) rfl ?_
        refine qW.blk rfl ?_
        refine qv_iconst (v := (-1)) rfl ?_
        refine qv_iret (rfl) ?_
        exact fin
      · refine qW.blk rfl ?_
        refine qv_aload rfl ?_
        refine qv_gr ly_8 ⟨rfl, rfl, rfl⟩ (by omega) ?_
        refine qv_iload rfl ?_
        refine qv_virtE (ly_9.rcv _) sg_Chamber_treeAt rfl rfl (r_treeAt_n hP (by omega) hJ.1.2.2.2.1 h12 hn) ?_
        refine qv_astoreN (L' := [_, _, _, _]) rfl ?_
        refine qv_aloadN rfl ?_
        refine qv_nonnull_f (nx := 1) rfl ?_
        refine qW.blk rfl ?_
        refine qv_iconst (v := (-1)) rfl ?_
        refine qv_iret (rfl) ?_
        exact fin
    · intro s Q hJ hk
      have fin := hk (uF s 163 0 0) hJ.thr ((qfr.rf s).uF (by omega))
      refine qP.of (L := [_, _, _]) (by omega) (hP _ rfl) ms_Model_of rfl ?_
      show qW X PR (d - 1) (some .int) cd_Model_of 0 _ _ _ _
      rcases pl_of t (aC A 3) with hm | hn
      · have hj : ¬ (0 ≤ w ∧ w ≤ nI 2) := fun z => h0 ⟨hm, (in_nI (n := 2) (by omega)).mp z⟩
        refine qW.blk rfl ?_
        refine qv_aload rfl ?_
        refine qv_iconst (v := 0) rfl ?_
        refine qv_pi ly_163 ⟨rfl, rfl, rfl⟩ (rfl) ?_
        refine qv_aload rfl ?_
        refine qv_iload rfl ?_
        refine qv_virtE (ly_163.rcv _) sg_Model_isTree rfl rfl (r_M_isTree hP (by omega) t (hJ.thr.1 3 (by decide))) ?_
        refine qv_if_eq_f (bI_ne.mpr ((in_nI1 (by omega)).mpr hm)) (nx := 1) rfl ?_
        refine qW.blk rfl ?_
        refine qv_iload rfl ?_
        refine qv_iconst (v := 0) rfl ?_
        refine qv_iconst (v := 2) rfl ?_
        refine qv_staticE sg_Model_in rfl (r_Model_in hP (by omega) w 0 (nI 2) _) ?_
        refine qv_if_ne_f (fun zq => zq (bI_f (hj))) (nx := 2) rfl ?_
        refine qW.blk rfl ?_
        refine qv_iconst (v := (-1)) rfl ?_
        refine qv_iret (rfl) ?_
        exact fin
      · refine qW.blk rfl ?_
        refine qv_aload rfl ?_
        refine qv_iconst (v := 0) rfl ?_
        refine qv_pi ly_163 ⟨rfl, rfl, rfl⟩ (rfl) ?_
        refine qv_aload rfl ?_
        refine qv_iload rfl ?_
        refine qv_virtE (ly_163.rcv _) sg_Model_isTree rfl rfl (r_M_isTree hP (by omega) t (hJ.thr.1 3 (by decide))) ?_
        refine qv_if_eq_t (bI_f (fun z => hn ((in_nI1 (by omega)).mp z))) (tgt := 2) rfl ?_
        refine qW.blk rfl ?_
        refine qv_iconst (v := (-1)) rfl ?_
        refine qv_iret (rfl) ?_
        exact fin
end
