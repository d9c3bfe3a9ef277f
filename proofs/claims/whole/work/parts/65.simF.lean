/-! shelves: keep, row, put, heft are alike -/
def aSh (A : AS) (k : Nat) (D : SD) : AS := (aC A, aP A, aI A, aT A, updN (aS A) k D)
theorem AOK.sh {A : AS} {k : Nat} {D : SD} (h : AOK A) (hD : shOK D) : AOK (aSh A k D) := ⟨h.1, h.2.1, h.2.2.1, h.2.2.2.1, fun d hd => by
  show shOK (updN (aS A) k D d)
  by_cases e : d = k
  · subst e; rw [updN_s]; exact hD
  · rw [updN_n e]; exact h.2.2.2.2 d hd⟩
theorem JC.sh {s s' : QST} {A : AS} {k : Nat} {D : SD} (h : JC s A) (hA : AOK A) (hk : k < 8) (F : qfr (123 + 5 * k) (127 + 5 * k) s s') (hD : cSH s' k D) : JC s' (aSh A k D) := by
  refine ⟨h.1.cg F hA.1.2.2.2.1 (by omega), by rw [F.f (by omega)]; exact h.2.1, fun z => ⟨(h.2.2.1 z).1.cg F (hA.2.2.1 z).1.2.2.2.1 (by omega), fun t ht => by rw [F.T (by omega), F.T (by omega)]; exact (h.2.2.1 z).2 t ht⟩, fun t ht => by rw [F.T (by omega), F.R]; exact h.2.2.2.1 t ht, fun d hd => ?_⟩
  show cSH s' d (updN (aS A) k D d)
  by_cases e : d = k
  · subst e; rw [updN_s]; exact hD
  · rw [updN_n e]; exact (h.2.2.2.2 d hd).cg (F.F (by omega)) (F.E (by omega)) (F.F (by omega))
/-- only the reference's rows of shelf k change -/
def rshf (k : Nat) (s s' : QST) : Prop := qfr 163 202 s s' ∧ (∀ c, ¬ (196 ≤ c ∧ c ≤ 200) → qE s' c = qE s c) ∧ (∀ c j, j ≠ k → qE s' c j = qE s c j ∨ c = 202) ∧ (∀ j, (j < 120 * k ∨ 120 * k + 120 ≤ j) → qL s' 201 j = qL s 201 j) ∧ ∀ q, q ≠ 0 → qF s' 163 q = qF s 163 q
theorem rshf.rf (k : Nat) (s : QST) : rshf k s s := ⟨qfr.rf s, fun _ _ => rfl, fun _ _ _ => Or.inl rfl, fun _ _ => rfl, fun _ _ => rfl⟩
theorem rshf.thr {k : Nat} {s t : QST} {v : Int32} (h : rshf k s t) : rshf k s (uF t 163 0 v) := ⟨h.1.uF (by omega), h.2.1, h.2.2.1, h.2.2.2.1, fun q hq => (qF_uFk hq).trans (h.2.2.2.2 q hq)⟩
theorem rshf.sE {k c : Nat} {s t : QST} {v : Int32} (h : rshf k s t) (hc : 196 ≤ c ∧ c ≤ 200) : rshf k s (uE t c k v) := ⟨h.1.uE (by omega), fun c' hc' => (qE_uEc (by omega)).trans (h.2.1 c' hc'), fun c' j hj => by rw [qE_uE, if_neg (fun z => hj z.2)]; exact h.2.2.1 c' j hj, h.2.2.2.1, h.2.2.2.2⟩
theorem rshf.sL {k j : Nat} {s t : QST} {v : Int64} (h : rshf k s t) (hj : 120 * k ≤ j ∧ j < 120 * k + 120) : rshf k s (uL t 201 j v) := ⟨h.1.uL (by omega), h.2.1, h.2.2.1, fun i hi => (qL_uLk (by omega)).trans (h.2.2.2.1 i hi), h.2.2.2.2⟩
theorem rshf.sB {k j : Nat} {s t : QST} {v : Int64} (h : rshf k s t) : rshf k s (uL t 202 j v) := ⟨h.1.uL (by omega), h.2.1, h.2.2.1, fun i hi => by rw [qL_uLc (by omega)]; exact h.2.2.2.1 i hi, h.2.2.2.2⟩
theorem JR.sh {s s' : QST} {A : AS} {k : Nat} {D : SD} (h : JR s A) (F : rshf k s s') (hD : rSH s' k D) : JR s' (aSh A k D) := by
  obtain ⟨h1, h2, h3, h4, h5, n1, n2, n3, n4, n5, n6⟩ := h
  obtain ⟨F1, F2, F3, F4, F5⟩ := F
  refine ⟨h1.cg (F2 _ (by omega)), fun z => (h2 z).cg (F2 _ (by omega)), by rw [F5 3 (by omega)]; exact h3, fun t ht => (h4 t ht).cg (fun c hc => F2 c (by omega)), fun d hd => ?_, by rw [F5 28 (by omega)]; exact n1, by rw [F5 29 (by omega)]; exact n2, by rw [F5 30 (by omega)]; exact n3, by rw [F5 31 (by omega)]; exact n4, by rw [F5 33 (by omega)]; exact n5, by rw [F5 35 (by omega)]; exact n6⟩
  show rSH s' d (updN (aS A) k D d)
  by_cases e : d = k
  · subst e; rw [updN_s]; exact hD
  · rw [updN_n e]
    have g : ∀ c, c ≠ 202 → qE s' c d = qE s c d := fun c hc => (F3 c d e).resolve_right hc
    unfold rSH
    rw [g 196 (by omega), g 197 (by omega), g 198 (by omega), g 199 (by omega), g 200 (by omega)]
    obtain ⟨q1, q2, q3⟩ := h5 d hd
    refine ⟨q1, fun z => ?_, q3⟩
    obtain ⟨p1, p2, p3⟩ := q2 z
    exact ⟨p1, p2, fun j hj => by rw [F4 _ (by omega)]; exact p3 j hj⟩
section
variable {X : pm_X} {PR : pm_P} {s : QST} {Q : QPost}
theorem w_M_wrongRow (hP : pm_np PR) {d : Nat} (hd : 2 ≤ d) {k h : Nat} (hk8 : k < 8) (h0 : qE s 196 k = nI h) (hh : h ≤ 2) (hk : Q (some (.int (refU h 2))) s) : qP X PR d 255 [.ref 163, .int (nI k)] s Q := by
  have hin : nI 0 ≤ nI k ∧ nI k ≤ nI 7 := (w_iff (by omega) (by omega) (by omega)).mpr ⟨by omega, by omega⟩
  refine qP.of (L := [_, _]) (by omega) (hP _ rfl) ms_Model_wrongRow rfl ?_
  show qW X PR (d - 1) (some .int) cd_Model_wrongRow 0 _ _ _ _
  unfold refU at hk
  by_cases e : h = 0
  · rw [if_pos e] at hk
    refine qW.blk rfl ?_
    refine qv_iload rfl ?_
    refine qv_iconst (v := 0) rfl ?_
    refine qv_iconst (v := 7) rfl ?_
    refine qv_staticE sg_Model_in rfl (r_Model_in hP (by omega) (nI k) (nI 0) (nI 7) _) ?_
    refine qv_if_ne_t (bI_ne.mpr (hin)) (tgt := 2) rfl ?_
    refine qW.blk rfl ?_
    refine qv_aload rfl ?_
    refine qv_gr ly_163 ⟨rfl, rfl, rfl⟩ (by omega) ?_
    refine qv_iload rfl ?_
    refine qv_ia ly_196 rfl (by omega) (by decide) (h0) ?_
    refine qv_if_neNf rfl (by omega) (by omega) (nx := 3) rfl ?_
    refine qW.blk rfl ?_
    refine qv_iconst (v := (-11)) rfl ?_
    refine qv_goto (tgt := 7) rfl ?_
    refine qW.blk rfl ?_
    refine qv_iret (rfl) ?_
    exact hk
  · rw [if_neg e] at hk
    by_cases e2 : h = 2
    · rw [if_pos e2] at hk
      refine qW.blk rfl ?_
      refine qv_iload rfl ?_
      refine qv_iconst (v := 0) rfl ?_
      refine qv_iconst (v := 7) rfl ?_
      refine qv_staticE sg_Model_in rfl (r_Model_in hP (by omega) (nI k) (nI 0) (nI 7) _) ?_
      refine qv_if_ne_t (bI_ne.mpr (hin)) (tgt := 2) rfl ?_
      refine qW.blk rfl ?_
      refine qv_aload rfl ?_
      refine qv_gr ly_163 ⟨rfl, rfl, rfl⟩ (by omega) ?_
      refine qv_iload rfl ?_
      refine qv_ia ly_196 rfl (by omega) (by decide) (h0) ?_
      refine qv_if_neNt rfl (by omega) (by omega) (tgt := 4) rfl ?_
      refine qW.blk rfl ?_
      refine qv_aload rfl ?_
      refine qv_gr ly_163 ⟨rfl, rfl, rfl⟩ (by omega) ?_
      refine qv_iload rfl ?_
      refine qv_ia ly_196 rfl (by omega) (by decide) (h0) ?_
      refine qv_iconst (v := 2) rfl ?_
      refine qv_icmp_eqNt (q := 2) rfl rfl (by omega) (by omega) (by omega) (tgt := 6) rfl ?_
      refine qW.blk rfl ?_
      refine qv_iconst (v := 0) rfl ?_
      refine qv_nil (nx := 7) rfl ?_
      refine qW.blk rfl ?_
      refine qv_iret (rfl) ?_
      exact hk
    · rw [if_neg e2] at hk
      refine qW.blk rfl ?_
      refine qv_iload rfl ?_
      refine qv_iconst (v := 0) rfl ?_
      refine qv_iconst (v := 7) rfl ?_
      refine qv_staticE sg_Model_in rfl (r_Model_in hP (by omega) (nI k) (nI 0) (nI 7) _) ?_
      refine qv_if_ne_t (bI_ne.mpr (hin)) (tgt := 2) rfl ?_
      refine qW.blk rfl ?_
      refine qv_aload rfl ?_
      refine qv_gr ly_163 ⟨rfl, rfl, rfl⟩ (by omega) ?_
      refine qv_iload rfl ?_
      refine qv_ia ly_196 rfl (by omega) (by decide) (h0) ?_
      refine qv_if_neNt rfl (by omega) (by omega) (tgt := 4) rfl ?_
      refine qW.blk rfl ?_
      refine qv_aload rfl ?_
      refine qv_gr ly_163 ⟨rfl, rfl, rfl⟩ (by omega) ?_
      refine qv_iload rfl ?_
      refine qv_ia ly_196 rfl (by omega) (by decide) (h0) ?_
      refine qv_iconst (v := 2) rfl ?_
      refine qv_icmp_eqNf (q := 2) rfl rfl (by omega) (by omega) (by omega) (nx := 5) rfl ?_
      refine qW.blk rfl ?_
      refine qv_iconst (v := (-12)) rfl ?_
      refine qv_goto (tgt := 7) rfl ?_
      refine qW.blk rfl ?_
      refine qv_iret (rfl) ?_
      exact hk
theorem w_M_wrongShelf (hP : pm_np PR) {d : Nat} (hd : 2 ≤ d) {k h : Nat} (hk8 : k < 8) (h0 : qE s 196 k = nI h) (hh : h ≤ 2) (hk : Q (some (.int (refU h 1))) s) : qP X PR d 260 [.ref 163, .int (nI k)] s Q := by
  have hin : nI 0 ≤ nI k ∧ nI k ≤ nI 7 := (w_iff (by omega) (by omega) (by omega)).mpr ⟨by omega, by omega⟩
  refine qP.of (L := [_, _]) (by omega) (hP _ rfl) ms_Model_wrongShelf rfl ?_
  show qW X PR (d - 1) (some .int) cd_Model_wrongShelf 0 _ _ _ _
  unfold refU at hk
  by_cases e : h = 0
  · rw [if_pos e] at hk
    refine qW.blk rfl ?_
    refine qv_iload rfl ?_
    refine qv_iconst (v := 0) rfl ?_
    refine qv_iconst (v := 7) rfl ?_
    refine qv_staticE sg_Model_in rfl (r_Model_in hP (by omega) (nI k) (nI 0) (nI 7) _) ?_
    refine qv_if_ne_t (bI_ne.mpr (hin)) (tgt := 2) rfl ?_
    refine qW.blk rfl ?_
    refine qv_aload rfl ?_
    refine qv_gr ly_163 ⟨rfl, rfl, rfl⟩ (by omega) ?_
    refine qv_iload rfl ?_
    refine qv_ia ly_196 rfl (by omega) (by decide) (h0) ?_
    refine qv_if_neNf rfl (by omega) (by omega) (nx := 3) rfl ?_
    refine qW.blk rfl ?_
    refine qv_iconst (v := (-11)) rfl ?_
    refine qv_goto (tgt := 7) rfl ?_
    refine qW.blk rfl ?_
    refine qv_iret (rfl) ?_
    exact hk
  · rw [if_neg e] at hk
    by_cases e2 : h = 2
    · rw [if_neg (by omega)] at hk
      refine qW.blk rfl ?_
      refine qv_iload rfl ?_
      refine qv_iconst (v := 0) rfl ?_
      refine qv_iconst (v := 7) rfl ?_
      refine qv_staticE sg_Model_in rfl (r_Model_in hP (by omega) (nI k) (nI 0) (nI 7) _) ?_
      refine qv_if_ne_t (bI_ne.mpr (hin)) (tgt := 2) rfl ?_
      refine qW.blk rfl ?_
      refine qv_aload rfl ?_
      refine qv_gr ly_163 ⟨rfl, rfl, rfl⟩ (by omega) ?_
      refine qv_iload rfl ?_
      refine qv_ia ly_196 rfl (by omega) (by decide) (h0) ?_
      refine qv_if_neNt rfl (by omega) (by omega) (tgt := 4) rfl ?_
      refine qW.blk rfl ?_
      refine qv_aload rfl ?_
      refine qv_gr ly_163 ⟨rfl, rfl, rfl⟩ (by omega) ?_
      refine qv_iload rfl ?_
      refine qv_ia ly_196 rfl (by omega) (by decide) (h0) ?_
      refine qv_iconst (v := 2) rfl ?_
      refine qv_icmp_neNf (q := 2) rfl rfl (by omega) (by omega) (by omega) (nx := 5) rfl ?_
      refine qW.blk rfl ?_
      refine qv_iconst (v := (-12)) rfl ?_
      refine qv_goto (tgt := 7) rfl ?_
      refine qW.blk rfl ?_
      refine qv_iret (rfl) ?_
      exact hk
    · rw [if_pos (by omega)] at hk
      refine qW.blk rfl ?_
      refine qv_iload rfl ?_
      refine qv_iconst (v := 0) rfl ?_
      refine qv_iconst (v := 7) rfl ?_
      refine qv_staticE sg_Model_in rfl (r_Model_in hP (by omega) (nI k) (nI 0) (nI 7) _) ?_
      refine qv_if_ne_t (bI_ne.mpr (hin)) (tgt := 2) rfl ?_
      refine qW.blk rfl ?_
      refine qv_aload rfl ?_
      refine qv_gr ly_163 ⟨rfl, rfl, rfl⟩ (by omega) ?_
      refine qv_iload rfl ?_
      refine qv_ia ly_196 rfl (by omega) (by decide) (h0) ?_
      refine qv_if_neNt rfl (by omega) (by omega) (tgt := 4) rfl ?_
      refine qW.blk rfl ?_
      refine qv_aload rfl ?_
      refine qv_gr ly_163 ⟨rfl, rfl, rfl⟩ (by omega) ?_
      refine qv_iload rfl ?_
      refine qv_ia ly_196 rfl (by omega) (by decide) (h0) ?_
      refine qv_iconst (v := 2) rfl ?_
      refine qv_icmp_neNt (q := 2) rfl rfl (by omega) (by omega) (by omega) (tgt := 6) rfl ?_
      refine qW.blk rfl ?_
      refine qv_iconst (v := 0) rfl ?_
      refine qv_nil (nx := 7) rfl ?_
      refine qW.blk rfl ?_
      refine qv_iret (rfl) ?_
      exact hk
theorem w_M_lacks (hP : pm_np PR) {d : Nat} (hd : 2 ≤ d) {k h so : Nat} (hk8 : k < 8) (h0 : qE s 196 k = nI h) (hh : h ≤ 2) (h1 : h = 2 → qE s 199 k = nI so) (hs : so ≤ 2) (hk : Q (some (.int (refB h so))) s) : qP X PR d 178 [.ref 163, .int (nI k)] s Q := by
  have hin : nI 0 ≤ nI k ∧ nI k ≤ nI 7 := (w_iff (by omega) (by omega) (by omega)).mpr ⟨by omega, by omega⟩
  refine qP.of (L := [_, _]) (by omega) (hP _ rfl) ms_Model_lacks rfl ?_
  show qW X PR (d - 1) (some .int) cd_Model_lacks 0 _ _ _ _
  unfold refB refU at hk
  by_cases e : h = 0
  · rw [if_neg (by omega), if_pos e] at hk
    refine qW.blk rfl ?_
    refine qv_iload rfl ?_
    refine qv_iconst (v := 0) rfl ?_
    refine qv_iconst (v := 7) rfl ?_
    refine qv_staticE sg_Model_in rfl (r_Model_in hP (by omega) (nI k) (nI 0) (nI 7) _) ?_
    refine qv_if_ne_t (bI_ne.mpr (hin)) (tgt := 2) rfl ?_
    refine qW.blk rfl ?_
    refine qv_aload rfl ?_
    refine qv_gr ly_163 ⟨rfl, rfl, rfl⟩ (by omega) ?_
    refine qv_iload rfl ?_
    refine qv_ia ly_196 rfl (by omega) (by decide) (h0) ?_
    refine qv_if_neNf rfl (by omega) (by omega) (nx := 3) rfl ?_
    refine qW.blk rfl ?_
    refine qv_iconst (v := (-11)) rfl ?_
    refine qv_goto (tgt := 8) rfl ?_
    refine qW.blk rfl ?_
    refine qv_iret (rfl) ?_
    exact hk
  · by_cases e2 : h = 2
    · by_cases e3 : so = 0
      · rw [if_neg (by omega), if_neg e, if_pos e2] at hk
        refine qW.blk rfl ?_
        refine qv_iload rfl ?_
        refine qv_iconst (v := 0) rfl ?_
        refine qv_iconst (v := 7) rfl ?_
        refine qv_staticE sg_Model_in rfl (r_Model_in hP (by omega) (nI k) (nI 0) (nI 7) _) ?_
        refine qv_if_ne_t (bI_ne.mpr (hin)) (tgt := 2) rfl ?_
        refine qW.blk rfl ?_
        refine qv_aload rfl ?_
        refine qv_gr ly_163 ⟨rfl, rfl, rfl⟩ (by omega) ?_
        refine qv_iload rfl ?_
        refine qv_ia ly_196 rfl (by omega) (by decide) (h0) ?_
        refine qv_if_neNt rfl (by omega) (by omega) (tgt := 4) rfl ?_
        refine qW.blk rfl ?_
        refine qv_aload rfl ?_
        refine qv_gr ly_163 ⟨rfl, rfl, rfl⟩ (by omega) ?_
        refine qv_iload rfl ?_
        refine qv_ia ly_196 rfl (by omega) (by decide) (h0) ?_
        refine qv_iconst (v := 2) rfl ?_
        refine qv_icmp_neNf (q := 2) rfl rfl (by omega) (by omega) (by omega) (nx := 5) rfl ?_
        refine qW.blk rfl ?_
        refine qv_aload rfl ?_
        refine qv_gr ly_163 ⟨rfl, rfl, rfl⟩ (by omega) ?_
        refine qv_iload rfl ?_
        refine qv_ia ly_199 rfl (by omega) (by decide) (h1 e2) ?_
        refine qv_if_eqNt rfl (by omega) (by omega) (tgt := 7) rfl ?_
        refine qW.blk rfl ?_
        refine qv_iconst (v := 0) rfl ?_
        refine qv_nil (nx := 8) rfl ?_
        refine qW.blk rfl ?_
        refine qv_iret (rfl) ?_
        exact hk
      · rw [if_pos ⟨e2, e3⟩] at hk
        refine qW.blk rfl ?_
        refine qv_iload rfl ?_
        refine qv_iconst (v := 0) rfl ?_
        refine qv_iconst (v := 7) rfl ?_
        refine qv_staticE sg_Model_in rfl (r_Model_in hP (by omega) (nI k) (nI 0) (nI 7) _) ?_
        refine qv_if_ne_t (bI_ne.mpr (hin)) (tgt := 2) rfl ?_
        refine qW.blk rfl ?_
        refine qv_aload rfl ?_
        refine qv_gr ly_163 ⟨rfl, rfl, rfl⟩ (by omega) ?_
        refine qv_iload rfl ?_
        refine qv_ia ly_196 rfl (by omega) (by decide) (h0) ?_
        refine qv_if_neNt rfl (by omega) (by omega) (tgt := 4) rfl ?_
        refine qW.blk rfl ?_
        refine qv_aload rfl ?_
        refine qv_gr ly_163 ⟨rfl, rfl, rfl⟩ (by omega) ?_
        refine qv_iload rfl ?_
        refine qv_ia ly_196 rfl (by omega) (by decide) (h0) ?_
        refine qv_iconst (v := 2) rfl ?_
        refine qv_icmp_neNf (q := 2) rfl rfl (by omega) (by omega) (by omega) (nx := 5) rfl ?_
        refine qW.blk rfl ?_
        refine qv_aload rfl ?_
        refine qv_gr ly_163 ⟨rfl, rfl, rfl⟩ (by omega) ?_
        refine qv_iload rfl ?_
        refine qv_ia ly_199 rfl (by omega) (by decide) (h1 e2) ?_
        refine qv_if_eqNf rfl (by omega) (by omega) (nx := 6) rfl ?_
        refine qW.blk rfl ?_
        refine qv_iconst (v := (-12)) rfl ?_
        refine qv_goto (tgt := 8) rfl ?_
        refine qW.blk rfl ?_
        refine qv_iret (rfl) ?_
        exact hk
    · rw [if_neg (by omega), if_neg e, if_neg e2] at hk
      refine qW.blk rfl ?_
      refine qv_iload rfl ?_
      refine qv_iconst (v := 0) rfl ?_
      refine qv_iconst (v := 7) rfl ?_
      refine qv_staticE sg_Model_in rfl (r_Model_in hP (by omega) (nI k) (nI 0) (nI 7) _) ?_
      refine qv_if_ne_t (bI_ne.mpr (hin)) (tgt := 2) rfl ?_
      refine qW.blk rfl ?_
      refine qv_aload rfl ?_
      refine qv_gr ly_163 ⟨rfl, rfl, rfl⟩ (by omega) ?_
      refine qv_iload rfl ?_
      refine qv_ia ly_196 rfl (by omega) (by decide) (h0) ?_
      refine qv_if_neNt rfl (by omega) (by omega) (tgt := 4) rfl ?_
      refine qW.blk rfl ?_
      refine qv_aload rfl ?_
      refine qv_gr ly_163 ⟨rfl, rfl, rfl⟩ (by omega) ?_
      refine qv_iload rfl ?_
      refine qv_ia ly_196 rfl (by omega) (by decide) (h0) ?_
      refine qv_iconst (v := 2) rfl ?_
      refine qv_icmp_neNt (q := 2) rfl rfl (by omega) (by omega) (by omega) (tgt := 6) rfl ?_
      refine qW.blk rfl ?_
      refine qv_iconst (v := (-12)) rfl ?_
      refine qv_goto (tgt := 8) rfl ?_
      refine qW.blk rfl ?_
      refine qv_iret (rfl) ?_
      exact hk
theorem w_M_failureOf (hP : pm_np PR) {d : Nat} (hd : 1 ≤ d) {C : Nat → Nat} (h : rC s 164 C) (hC : CB C) {m : Nat} (hm : m < C 2) (hk : Q (some (.int (failN (fun q => if q = 0 then m else C (10 * q + m))))) s) : qP X PR d 252 [.ref 163, .int (nI m)] s Q := by
  have hM := hC.2.2.2.1
  obtain ⟨c1, c2, c3, c4, c5, -⟩ := hC.2.2.2.2.2 m hm
  have e1 := h (10 + m) (by omega)
  unfold failN at hk
  simp only [show ¬ (1 : Nat) = 0 by decide, show ¬ (2 : Nat) = 0 by decide, show ¬ (4 : Nat) = 0 by decide, if_false, if_true, Nat.reduceMul] at hk
  obtain ⟨k, hk'⟩ : ∃ k, C (10 + m) = k := ⟨_, rfl⟩
  rw [hk'] at c1 e1 hk
  refine qP.of (L := [_, _]) (by omega) (hP _ rfl) ms_Model_failureOf rfl ?_
  show qW X PR (d - 1) (some .int) cd_Model_failureOf 0 _ _ _ _
  rcases (show k = 0 ∨ k = 1 ∨ k = 2 ∨ k = 3 ∨ k = 4 ∨ k = 5 by omega) with rfl | rfl | rfl | rfl | rfl | rfl
  · refine qW.blk rfl ?_
    refine qv_aload rfl ?_
    refine qv_gr ly_163 ⟨rfl, rfl, rfl⟩ (by omega) ?_
    refine qv_iconst (v := 10) rfl ?_
    refine qv_iload rfl ?_
    refine qv_iaddN (p := 10) rfl rfl ?_
    refine qv_ia ly_164 rfl (by omega) (by decide) (e1) ?_
    refine qv_table (rfl) (tgt := 7) rfl ?_
    refine qW.blk rfl ?_
    refine qv_iload rfl ?_
    refine qv_iret (rfl) ?_
    exact hk
  · refine qW.blk rfl ?_
    refine qv_aload rfl ?_
    refine qv_gr ly_163 ⟨rfl, rfl, rfl⟩ (by omega) ?_
    refine qv_iconst (v := 10) rfl ?_
    refine qv_iload rfl ?_
    refine qv_iaddN (p := 10) rfl rfl ?_
    refine qv_ia ly_164 rfl (by omega) (by decide) (e1) ?_
    refine qv_table (rfl) (tgt := 7) rfl ?_
    refine qW.blk rfl ?_
    refine qv_iload rfl ?_
    refine qv_iret (rfl) ?_
    exact hk
  · refine qW.blk rfl ?_
    refine qv_aload rfl ?_
    refine qv_gr ly_163 ⟨rfl, rfl, rfl⟩ (by omega) ?_
    refine qv_iconst (v := 10) rfl ?_
    refine qv_iload rfl ?_
    refine qv_iaddN (p := 10) rfl rfl ?_
    refine qv_ia ly_164 rfl (by omega) (by decide) (e1) ?_
    refine qv_table (rfl) (tgt := 7) rfl ?_
    refine qW.blk rfl ?_
    refine qv_iload rfl ?_
    refine qv_iret (rfl) ?_
    exact hk
  · refine qW.blk rfl ?_
    refine qv_aload rfl ?_
    refine qv_gr ly_163 ⟨rfl, rfl, rfl⟩ (by omega) ?_
    refine qv_iconst (v := 10) rfl ?_
    refine qv_iload rfl ?_
    refine qv_iaddN (p := 10) rfl rfl ?_
    refine qv_ia ly_164 rfl (by omega) (by decide) (e1) ?_
    refine qv_table (rfl) (tgt := 1) rfl ?_
    refine qW.blk rfl ?_
    refine qv_iconst (v := (-15)) rfl ?_
    refine qv_iret (rfl) ?_
    exact hk
  · refine qW.blk rfl ?_
    refine qv_aload rfl ?_
    refine qv_gr ly_163 ⟨rfl, rfl, rfl⟩ (by omega) ?_
    refine qv_iconst (v := 10) rfl ?_
    refine qv_iload rfl ?_
    refine qv_iaddN (p := 10) rfl rfl ?_
    refine qv_ia ly_164 rfl (by omega) (by decide) (e1) ?_
    refine qv_table (rfl) (tgt := 2) rfl ?_
    refine qW.blk rfl ?_
    refine qv_iconst (v := 100) rfl ?_
    refine qv_aload rfl ?_
    refine qv_gr ly_163 ⟨rfl, rfl, rfl⟩ (by omega) ?_
    refine qv_iconst (v := 40) rfl ?_
    refine qv_iload rfl ?_
    refine qv_iaddN (p := 40) rfl rfl ?_
    refine qv_ia ly_164 rfl (by omega) (by decide) (h (40 + m) (by omega)) ?_
    refine qv_iaddN (p := 100) rfl rfl ?_
    refine qv_iload rfl ?_
    refine qv_iaddN rfl rfl ?_
    refine qv_iret (rfl) ?_
    exact hk
  · by_cases ev : C (20 + m) = 1
    · refine qW.blk rfl ?_
      refine qv_aload rfl ?_
      refine qv_gr ly_163 ⟨rfl, rfl, rfl⟩ (by omega) ?_
      refine qv_iconst (v := 10) rfl ?_
      refine qv_iload rfl ?_
      refine qv_iaddN (p := 10) rfl rfl ?_
      refine qv_ia ly_164 rfl (by omega) (by decide) (e1) ?_
      refine qv_table (rfl) (tgt := 3) rfl ?_
      rw [ev] at hk
      refine qW.blk rfl ?_
      refine qv_aload rfl ?_
      refine qv_gr ly_163 ⟨rfl, rfl, rfl⟩ (by omega) ?_
      refine qv_iconst (v := 20) rfl ?_
      refine qv_iload rfl ?_
      refine qv_iaddN (p := 20) rfl rfl ?_
      refine qv_ia ly_164 rfl (by omega) (by decide) (h (20 + m) (by omega)) ?_
      refine qv_iconst (v := 1) rfl ?_
      refine qv_icmp_neNf (q := 1) rfl rfl (by omega) (by omega) (by omega) (nx := 4) rfl ?_
      refine qW.blk rfl ?_
      refine qv_iconst (v := (-15)) rfl ?_
      refine qv_goto (tgt := 6) rfl ?_
      refine qW.blk rfl ?_
      refine qv_iret (rfl) ?_
      exact hk
    · refine qW.blk rfl ?_
      refine qv_aload rfl ?_
      refine qv_gr ly_163 ⟨rfl, rfl, rfl⟩ (by omega) ?_
      refine qv_iconst (v := 10) rfl ?_
      refine qv_iload rfl ?_
      refine qv_iaddN (p := 10) rfl rfl ?_
      refine qv_ia ly_164 rfl (by omega) (by decide) (e1) ?_
      refine qv_table (rfl) (tgt := 3) rfl ?_
      refine qW.blk rfl ?_
      refine qv_aload rfl ?_
      refine qv_gr ly_163 ⟨rfl, rfl, rfl⟩ (by omega) ?_
      refine qv_iconst (v := 20) rfl ?_
      refine qv_iload rfl ?_
      refine qv_iaddN (p := 20) rfl rfl ?_
      refine qv_ia ly_164 rfl (by omega) (by decide) (h (20 + m) (by omega)) ?_
      refine qv_iconst (v := 1) rfl ?_
      refine qv_icmp_neNt (q := 1) rfl rfl (by omega) (by omega) (by omega) (tgt := 5) rfl ?_
      refine qW.blk rfl ?_
      refine qv_iload rfl ?_
      refine qv_nil (nx := 6) rfl ?_
      refine qW.blk rfl ?_
      refine qv_iret (rfl) ?_
      rw [if_neg (by decide), if_neg (by decide), if_pos rfl, if_neg ev] at hk
      exact hk
end
section
variable {X : pm_X} {PR : pm_P}
theorem nI7in {k : Nat} (h : k < 8) : nI 0 ≤ nI k ∧ nI k ≤ nI 7 := (w_iff (by omega) (by omega) (by omega)).mpr ⟨by omega, by omega⟩
theorem not7 {v : Int32} (h : ¬ ∃ m, m < 8 ∧ v = nI m) : ¬ (0 ≤ v ∧ v ≤ nI 7) := fun z => by
  obtain ⟨j, h1, h2⟩ := (in_nI (n := 7) (by omega)).mp z
  exact h ⟨j, by omega, h2⟩
theorem Sim_heft (hP : pm_np PR) (a : Int32) : Sim X PR 159 259 [.int a] := by
  intro d A hd hA
  rcases pl_of a 8 with ⟨k, hk8, rfl⟩ | hn
  · obtain ⟨s1, s2, s3, s4, s5⟩ := hA.2.2.2.2 k hk8
    by_cases h1 : (aS A k).1 = 1
    · obtain ⟨g0, g1, g2, g3, g4, g5⟩ := s5 h1
      refine ⟨.int (nI (heftN ((aS A k).2.2.2.2 1) ((aS A k).2.2.2.2 2) ((aS A k).2.2.2.2 3))), A, hA, ?_, ?_⟩
      · intro s Q hJ hk
        obtain ⟨c1, c2, c3⟩ := hJ.2.2.2.2 k hk8
        have r0 : refU (aS A k).1 1 = nI 0 := by rw [h1]; rfl
        refine qP.of (L := [_, _, _, _]) (by omega) (hP _ rfl) ms_Desk_heft rfl ?_
        show qW X PR (d - 1) (some .int) cd_Desk_heft 0 _ _ _ _
        refine qW.blk rfl ?_
        refine qv_aload rfl ?_
        refine qv_iload rfl ?_
        refine qv_virtE (ly_8.rcv _) sg_Desk_shelfAt rfl rfl (r_shelfAt_y hP (by omega) hk8) ?_
        refine qv_astore (L' := [_, _, _, _]) rfl ?_
        refine qv_aload rfl ?_
        refine qv_iconst (v := 1) rfl ?_
        refine qv_staticE sg_Desk_refusalOf rfl (r_memberRefusal hP (by omega) hk8 c1 s1) ?_
        refine qv_istore (L' := [_, _, _, _]) rfl ?_
        refine qv_aload rfl ?_
        refine qv_null_f (nx := 1) rfl ?_
        refine qW.blk rfl ?_
        refine qv_iload rfl ?_
        refine qv_if_eq_t (r0) (tgt := 3) rfl ?_
        refine qW.blk rfl ?_
        refine qv_aload rfl ?_
        refine qv_gr (ly_sh (d := k) (by omega)) ⟨rfl, rfl, rfl⟩ (by omega) ?_
        refine qv_virtE ((mb_sh (d := k) (by omega)).1.rcv _) sg_Member_weight rfl rfl (r_Member_weight hP (by omega) (mb_sh hk8) (c3 h1 1 (by omega)) g1 (c3 h1 2 (by omega)) ⟨g2, g3⟩ (c3 h1 3 (by omega)) g4) ?_
        refine qv_iret (rfl) ?_
        exact hk s hJ (cfr.rf s)
      · intro s Q hJ hk
        obtain ⟨c1, c2, c3⟩ := hJ.2.2.2.2.1 k hk8
        have r0 : refU (aS A k).1 1 = nI 0 := by rw [h1]; rfl
        refine qP.of (L := [_, _, _]) (by omega) (hP _ rfl) ms_Model_heft rfl ?_
        show qW X PR (d - 1) (some .int) cd_Model_heft 0 _ _ _ _
        refine qW.blk rfl ?_
        refine qv_aload rfl ?_
        refine qv_iconst (v := 0) rfl ?_
        refine qv_pi ly_163 ⟨rfl, rfl, rfl⟩ (rfl) ?_
        refine qv_aload rfl ?_
        refine qv_iload rfl ?_
        refine qv_virt (ly_163.rcv _) sg_Model_wrongShelf rfl rfl (w_M_wrongShelf hP (by omega) hk8 c1 s1 ?_) 
        refine qv_istore (L' := [_, _, _]) rfl ?_
        refine qv_iload rfl ?_
        refine qv_if_ge_t (by rw [r0]; decide) (tgt := 2) rfl ?_
        refine qW.blk rfl ?_
        refine qv_aload rfl ?_
        refine qv_gr ly_163 ⟨rfl, rfl, rfl⟩ (by omega) ?_
        refine qv_iload rfl ?_
        refine qv_ia ly_197 rfl (by omega) (by decide) ((c3 h1).1) ?_
        refine qv_nil (nx := 3) rfl ?_
        refine qW.blk rfl ?_
        refine qv_iret (rfl) ?_
        exact hk (uF s 163 0 0) hJ.thr ((qfr.rf s).uF (by omega))
    · refine ⟨.int (refU (aS A k).1 1), A, hA, ?_, ?_⟩
      · intro s Q hJ hk
        obtain ⟨c1, c2, c3⟩ := hJ.2.2.2.2 k hk8
        have r0 : ¬ refU (aS A k).1 1 = 0 := by unfold refU; rw [if_neg h1]; split <;> decide
        refine qP.of (L := [_, _, _, _]) (by omega) (hP _ rfl) ms_Desk_heft rfl ?_
        show qW X PR (d - 1) (some .int) cd_Desk_heft 0 _ _ _ _
        refine qW.blk rfl ?_
        refine qv_aload rfl ?_
        refine qv_iload rfl ?_
        refine qv_virtE (ly_8.rcv _) sg_Desk_shelfAt rfl rfl (r_shelfAt_y hP (by omega) hk8) ?_
        refine qv_astore (L' := [_, _, _, _]) rfl ?_
        refine qv_aload rfl ?_
        refine qv_iconst (v := 1) rfl ?_
        refine qv_staticE sg_Desk_refusalOf rfl (r_memberRefusal hP (by omega) hk8 c1 s1) ?_
        refine qv_istore (L' := [_, _, _, _]) rfl ?_
        refine qv_aload rfl ?_
        refine qv_null_f (nx := 1) rfl ?_
        refine qW.blk rfl ?_
        refine qv_iload rfl ?_
        refine qv_if_eq_f (r0) (nx := 2) rfl ?_
        refine qW.blk rfl ?_
        refine qv_iload rfl ?_
        refine qv_iret (rfl) ?_
        exact hk s hJ (cfr.rf s)
      · intro s Q hJ hk
        obtain ⟨c1, c2, c3⟩ := hJ.2.2.2.2.1 k hk8
        have r0 : ¬ 0 ≤ refU (aS A k).1 1 := by unfold refU; rw [if_neg h1]; split <;> decide
        refine qP.of (L := [_, _, _]) (by omega) (hP _ rfl) ms_Model_heft rfl ?_
        show qW X PR (d - 1) (some .int) cd_Model_heft 0 _ _ _ _
        refine qW.blk rfl ?_
        refine qv_aload rfl ?_
        refine qv_iconst (v := 0) rfl ?_
        refine qv_pi ly_163 ⟨rfl, rfl, rfl⟩ (rfl) ?_
        refine qv_aload rfl ?_
        refine qv_iload rfl ?_
        refine qv_virt (ly_163.rcv _) sg_Model_wrongShelf rfl rfl (w_M_wrongShelf hP (by omega) hk8 c1 s1 ?_) 
        refine qv_istore (L' := [_, _, _]) rfl ?_
        refine qv_iload rfl ?_
        refine qv_if_ge_f (r0) (nx := 1) rfl ?_
        refine qW.blk rfl ?_
        refine qv_iload rfl ?_
        refine qv_goto (tgt := 3) rfl ?_
        refine qW.blk rfl ?_
        refine qv_iret (rfl) ?_
        exact hk (uF s 163 0 0) hJ.thr ((qfr.rf s).uF (by omega))
  · refine ⟨.int (-1), A, hA, ?_, ?_⟩
    · intro s Q hJ hk
      refine qP.of (L := [_, _, _, _]) (by omega) (hP _ rfl) ms_Desk_heft rfl ?_
      show qW X PR (d - 1) (some .int) cd_Desk_heft 0 _ _ _ _
      refine qW.blk rfl ?_
      refine qv_aload rfl ?_
      refine qv_iload rfl ?_
      refine qv_virtE (ly_8.rcv _) sg_Desk_shelfAt rfl rfl (r_shelfAt_n hP (by omega) hn) ?_
      refine qv_astoreN (L' := [_, _, _, _]) rfl ?_
      refine qv_aloadN rfl ?_
      refine qv_iconst (v := 1) rfl ?_
      refine qv_staticE sg_Desk_refusalOf rfl (r_refusalNull hP (by omega) _) ?_
      refine qv_istore (L' := [_, _, _, _]) rfl ?_
      refine qv_aloadN rfl ?_
      refine qv_null_t (tgt := 2) rfl ?_
      refine qW.blk rfl ?_
      refine qv_iload rfl ?_
      refine qv_iret (rfl) ?_
      exact hk s hJ (cfr.rf s)
    · intro s Q hJ hk
      have w : ∀ (d : Nat) (Q : QPost), 2 ≤ d → Q (some (.int (-1))) (uF s 163 0 0) → qP X PR d 260 [.ref 163, .int a] (uF s 163 0 0) Q := by
        intro d Q hd hk
        refine qP.of (L := [_, _]) (by omega) (hP _ rfl) ms_Model_wrongShelf rfl ?_
        show qW X PR (d - 1) (some .int) cd_Model_wrongShelf 0 _ _ _ _
        refine qW.blk rfl ?_
        refine qv_iload rfl ?_
        refine qv_iconst (v := 0) rfl ?_
        refine qv_iconst (v := 7) rfl ?_
        refine qv_staticE sg_Model_in rfl (r_Model_in hP (by omega) a 0 (nI 7) _) ?_
        refine qv_if_ne_f (fun zq => zq (bI_f (not7 hn))) (nx := 1) rfl ?_
        refine qW.blk rfl ?_
        refine qv_iconst (v := (-1)) rfl ?_
        refine qv_goto (tgt := 7) rfl ?_
        refine qW.blk rfl ?_
        refine qv_iret (rfl) ?_
        exact hk
      refine qP.of (L := [_, _, _]) (by omega) (hP _ rfl) ms_Model_heft rfl ?_
      show qW X PR (d - 1) (some .int) cd_Model_heft 0 _ _ _ _
      refine qW.blk rfl ?_
      refine qv_aload rfl ?_
      refine qv_iconst (v := 0) rfl ?_
      refine qv_pi ly_163 ⟨rfl, rfl, rfl⟩ (rfl) ?_
      refine qv_aload rfl ?_
      refine qv_iload rfl ?_
      refine qv_virt (ly_163.rcv _) sg_Model_wrongShelf rfl rfl (w _ _ (by omega) ?_) 
      refine qv_istore (L' := [_, _, _]) rfl ?_
      refine qv_iload rfl ?_
      refine qv_if_ge_f (by decide) (nx := 1) rfl ?_
      refine qW.blk rfl ?_
      refine qv_iload rfl ?_
      refine qv_goto (tgt := 3) rfl ?_
      refine qW.blk rfl ?_
      refine qv_iret (rfl) ?_
      exact hk (uF s 163 0 0) hJ.thr ((qfr.rf s).uF (by omega))
end
