/-! toss: the reference's side, and both -/
theorem nI_inj {m n : Nat} (hm : m < 2 ^ 31) (hn : n < 2 ^ 31) (h : nI m = nI n) : m = n := by
  have := congrArg Int32.toNatClampNeg h
  rwa [nI_clamp hm, nI_clamp hn] at this
section
variable {X : pm_X} {PR : pm_P}
theorem w_M_toss (hP : pm_np PR) {d : Nat} (hd : 40 ≤ d) {s : QST} {A : AS} {Q : QPost} (hA : AOK A) (hJ : JR s A) {k : Nat} (hk8 : k < 8) (h1 : (aS A k).1 = 1) (hk : Q (some (.int (failN (aS A k).2.2.2.2))) (uF s 163 0 0)) : qP X PR d 261 [.ref 163, .int (nI k)] s Q := by
  obtain ⟨s1, s2, s3, s4, s5⟩ := hA.2.2.2.2 k hk8
  obtain ⟨c1, c2, c3⟩ := hJ.2.2.2.2.1 k hk8
  have r0 : refU (aS A k).1 1 = nI 0 := by rw [h1]; rfl
  refine qP.of (L := [_, _, _]) (by omega) (hP _ rfl) ms_Model_toss rfl ?_
  show qW X PR (d - 1) (some .int) cd_Model_toss 0 _ _ _ _
  refine qW.blk rfl ?_
  refine qv_aload rfl ?_
  refine qv_iconst (v := 0) rfl ?_
  refine qv_pi ly_163 ⟨rfl, rfl, rfl⟩ (rfl) ?_
  refine qv_aload rfl ?_
  refine qv_iload rfl ?_
  refine qv_virt (ly_163.rcv _) sg_Model_wrongShelf rfl rfl (w_M_wrongShelf hP (by omega) hk8 c1 s1 ?_) 
  refine qv_istore (L' := [_, _, _]) rfl ?_
  refine qv_iload rfl ?_
  refine qv_if_ge_t (by rw [r0]; decide) (tgt := 2) rfl ?_
  refine qW.blk rfl ?_
  refine qv_aload rfl ?_
  refine qv_gr ly_163 ⟨rfl, rfl, rfl⟩ (by omega) ?_
  refine qv_iload rfl ?_
  refine qv_ia ly_198 rfl (by omega) (by decide) ((c3 h1).2) ?_
  refine qv_nil (nx := 3) rfl ?_
  refine qW.blk rfl ?_
  refine qv_iret (rfl) ?_
  exact hk
theorem w_M_tossR (hP : pm_np PR) {d : Nat} (hd : 40 ≤ d) {s : QST} {A : AS} {Q : QPost} (hA : AOK A) (hJ : JR s A) {k : Nat} (hk8 : k < 8) (h1 : ¬ (aS A k).1 = 1) (hk : Q (some (.int (refU (aS A k).1 1))) (uF s 163 0 0)) : qP X PR d 261 [.ref 163, .int (nI k)] s Q := by
  obtain ⟨s1, s2, s3, s4, s5⟩ := hA.2.2.2.2 k hk8
  obtain ⟨c1, c2, c3⟩ := hJ.2.2.2.2.1 k hk8
  have r0 : ¬ 0 ≤ refU (aS A k).1 1 := by unfold refU; rw [if_neg h1]; split <;> decide
  refine qP.of (L := [_, _, _]) (by omega) (hP _ rfl) ms_Model_toss rfl ?_
  show qW X PR (d - 1) (some .int) cd_Model_toss 0 _ _ _ _
  refine qW.blk rfl ?_
  refine qv_aload rfl ?_
  refine qv_iconst (v := 0) rfl ?_
  refine qv_pi ly_163 ⟨rfl, rfl, rfl⟩ (rfl) ?_
  refine qv_aload rfl ?_
  refine qv_iload rfl ?_
  refine qv_virt (ly_163.rcv _) sg_Model_wrongShelf rfl rfl (w_M_wrongShelf hP (by omega) hk8 c1 s1 ?_) 
  refine qv_istore (L' := [_, _, _]) rfl ?_
  refine qv_iload rfl ?_
  refine qv_if_ge_f (r0) (nx := 1) rfl ?_
  refine qW.blk rfl ?_
  refine qv_iload rfl ?_
  refine qv_goto (tgt := 3) rfl ?_
  refine qW.blk rfl ?_
  refine qv_iret (rfl) ?_
  exact hk
theorem w_M_tossN (hP : pm_np PR) {d : Nat} (hd : 40 ≤ d) {s : QST} {Q : QPost} {a : Int32} (hn : ¬ ∃ m, m < 8 ∧ a = nI m) (hk : Q (some (.int (-1))) (uF s 163 0 0)) : qP X PR d 261 [.ref 163, .int a] s Q := by
  have w : ∀ (d : Nat) (Q : QPost), 2 ≤ d → Q (some (.int (-1))) (uF s 163 0 0) → qP X PR d 260 [.ref 163, .int a] (uF s 163 0 0) Q := by
    intro d Q hd hk
    refine qP.of (L := [_, _]) (by omega) (hP _ rfl) ms_Model_wrongShelf rfl ?_
    show qW X PR (d - 1) (some .int) cd_Model_wrongShelf 0 _ _ _ _
    refine qW.blk rfl ?_
    refine qv_iload rfl ?_
    refine qv_iconst (v := 0) rfl ?_
    refine qv_iconst (v := 7) rfl ?_
    refine qv_staticE sg_Model_in rfl (r_Model_in hP (by omega) a 0 (nI 7) _) ?_
    refine qv_if_ne_f (fun zq => zq (bI_f (not7 hn))) (nx := 1) rfl ?_
    refine qW.blk rfl ?_
    refine qv_iconst (v := (-1)) rfl ?_
    refine qv_goto (tgt := 7) rfl ?_
    refine qW.blk rfl ?_
    refine qv_iret (rfl) ?_
    exact hk
  refine qP.of (L := [_, _, _]) (by omega) (hP _ rfl) ms_Model_toss rfl ?_
  show qW X PR (d - 1) (some .int) cd_Model_toss 0 _ _ _ _
  refine qW.blk rfl ?_
  refine qv_aload rfl ?_
  refine qv_iconst (v := 0) rfl ?_
  refine qv_pi ly_163 ⟨rfl, rfl, rfl⟩ (rfl) ?_
  refine qv_aload rfl ?_
  refine qv_iload rfl ?_
  refine qv_virt (ly_163.rcv _) sg_Model_wrongShelf rfl rfl (w _ _ (by omega) ?_) 
  refine qv_istore (L' := [_, _, _]) rfl ?_
  refine qv_iload rfl ?_
  refine qv_if_ge_f (by decide) (nx := 1) rfl ?_
  refine qW.blk rfl ?_
  refine qv_iload rfl ?_
  refine qv_goto (tgt := 3) rfl ?_
  refine qW.blk rfl ?_
  refine qv_iret (rfl) ?_
  exact hk
end
theorem JC_ex {s : QST} {A : AS} {ci : Nat} (h : JC s A) : JC (exS s ci) A := ⟨h.1, h.2.1, h.2.2.1, fun t ht => (by
  obtain ⟨T, e, g⟩ := h.2.2.2.1 t ht
  exact ⟨T, e, g.app⟩), h.2.2.2.2⟩
theorem JR_ex {s : QST} {A : AS} {ci : Nat} (h : JR s A) : JR (exS s ci) A := h
theorem LI_up {A : AS} {n : Nat} {s s1 s2 : QST} (hA : AOK A) (h1 : JC s1 A) (h2 : JR s2 A) (F : qfr 163 202 s1 s2) (n1 : (qR s).length ≤ 4 * n) (n2 : qN s ≤ 1000000 + 400 * n) (e1 : (qR s1).length ≤ (qR s).length + 4) (e2 : qN s1 ≤ qN s + 400) : LI (n + 1) s2 := ⟨A, hA, h1.fr hA F (by omega), h2, by rw [F.R]; omega, by
  rw [F.N]; exact Nat.le_trans e2 (Nat.le_trans (Nat.add_le_add_right n2 400) (Nat.le_of_eq (by rw [Nat.mul_add, Nat.add_assoc])))⟩
theorem tossF_q {s : QST} {v : Int32} : gtoss [.ref 8, .int v] (qhp s) = @ite _ (∃ k, k < 8 ∧ v = nI k) (Classical.propDecidable _) (tossG (qhp s) (123 + 5 * v.toNatClampNeg)) (some (some (.int (-1)), qhp s)) := by
  show tossF (qhp s) v = _
  unfold tossF
  rw [if_pos ⟨s, rfl⟩]
theorem exS_len {s : QST} {ci : Nat} : (qR (exS s ci)).length = (qR s).length + 1 := by
  show (qR s ++ [(.inr (ci, []) : va_E)]).length = _
  rw [List.length_append]; rfl
theorem exS_N {s : QST} {ci : Nat} : qN (exS s ci) = qN s + 6 := rfl
theorem toss_call {X : pm_X} {n : Nat} {s : QST} {a : Int32} (hI : LI n s) : ∃ x s1 s2, pm_run X pm_Ms (PR1 X) 101 160 [.ref 8, .int a] (qhp s) = some (some (.int x), qhp s1) ∧ pm_run X pm_Ms (PR1 X) 101 261 [.ref 163, .int a] (qhp s1) = some (some (.int x), qhp s2) ∧ LI (n + 1) s2 := by
  obtain ⟨A, hA, hC, hR, n1, n2⟩ := hI
  have g2 : PRg X 261 = pm_run X pm_Ms PR0 100 261 := by unfold PRg; rw [if_neg (by decide), if_neg (by decide), if_neg (by decide)]
  have g1 : PRg X 160 = gtoss := by unfold PRg; rw [if_pos (by rfl)]
  have fin : ∀ (x : Int32) (s1 : QST), gtoss [.ref 8, .int a] (qhp s) = some (some (.int x), qhp s1) → JC s1 A → JR s1 A → (qR s1).length ≤ (qR s).length + 4 → qN s1 ≤ qN s + 400 → qP X PR0 100 261 [.ref 163, .int a] s1 (fun v s' => v = some (.int x) ∧ s' = uF s1 163 0 0) → ∃ x s1 s2, pm_run X pm_Ms (PR1 X) 101 160 [.ref 8, .int a] (qhp s) = some (some (.int x), qhp s1) ∧ pm_run X pm_Ms (PR1 X) 101 261 [.ref 163, .int a] (qhp s1) = some (some (.int x), qhp s2) ∧ LI (n + 1) s2 := by
    intro x s1 hg h1 h2 e1 e2 hq
    obtain ⟨v, s', hr, rfl, rfl⟩ := hq
    exact ⟨x, s1, _, by rw [run1, g1]; exact hg, by rw [run1, g2]; exact hr, LI_up hA h1 h2.thr ((qfr.rf s1).uF (by omega)) n1 n2 e1 e2⟩
  rcases pl_of a 8 with ⟨k, hk8, rfl⟩ | hn
  · have hg : gtoss [.ref 8, .int (nI k)] (qhp s) = tossG (qhp s) (123 + 5 * k) := by
      rw [tossF_q, if_pos ⟨k, hk8, rfl⟩, nI_clamp (by omega)]
    unfold tossG at hg
    rw [fI_q (ly_sh hk8) rfl, fI_q (mb_sh hk8).1 rfl, fI_q (mb_sh hk8).1 rfl, fI_q (mb_sh hk8).1 rfl, fI_q (mb_sh hk8).1 rfl] at hg
    obtain ⟨c1, c2, c3⟩ := hC.2.2.2.2 k hk8
    obtain ⟨s1, s2, s3, s4, s5⟩ := hA.2.2.2.2 k hk8
    rw [c1] at hg
    by_cases h1 : (aS A k).1 = 1
    · rw [h1, if_neg (by decide), if_neg (by decide), if_pos (by rfl)] at hg
      obtain ⟨q0, q1, q2, q3, q4, q5⟩ := s5 h1
      rw [c3 h1 0 (by decide), c3 h1 1 (by decide), c3 h1 2 (by decide), c3 h1 4 (by decide)] at hg
      have eK : ∀ w, w ≤ 5 → (nI ((aS A k).2.2.2.2 1) = nI w ↔ (aS A k).2.2.2.2 1 = w) := fun w hw => ⟨fun z => nI_inj (by omega) (by omega) z, fun z => by rw [z]⟩
      have eV : nI ((aS A k).2.2.2.2 2) = nI 1 ↔ (aS A k).2.2.2.2 2 = 1 := ⟨fun z => nI_inj (by omega) (by omega) z, fun z => by rw [z]⟩
      by_cases hs : (aS A k).2.2.2.2 1 = 3 ∨ ((aS A k).2.2.2.2 1 = 5 ∧ (aS A k).2.2.2.2 2 = 1)
      · rw [if_pos (by
          rcases hs with h | ⟨h, h'⟩
          · exact Or.inl ((eK 3 (by decide)).mpr h)
          · exact Or.inr ⟨(eK 5 (by decide)).mpr h, eV.mpr h'⟩)] at hg
        have ef : failN (aS A k).2.2.2.2 = -15 := by
          unfold failN
          rcases hs with h | ⟨h, h'⟩
          · rw [if_pos h]
          · rw [if_neg (by omega), if_neg (by omega), if_pos h, if_pos h']
        exact fin (-15) s hg hC hR (by omega) (by omega) (w_M_toss PR0_np (by decide) hA hR hk8 h1 ⟨by rw [ef], rfl⟩)
      · rw [if_neg (fun z => hs (by
          rcases z with h | ⟨h, h'⟩
          · exact Or.inl ((eK 3 (by decide)).mp h)
          · exact Or.inr ⟨(eK 5 (by decide)).mp h, eV.mp h'⟩))] at hg
        by_cases h4 : (aS A k).2.2.2.2 1 = 4
        · rw [if_pos (show nI ((aS A k).2.2.2.2 1) = (4 : Int32) from (eK 4 (by decide)).mpr h4)] at hg
          have ef : failN (aS A k).2.2.2.2 = 100 + nI ((aS A k).2.2.2.2 4) + nI ((aS A k).2.2.2.2 0) := by
            unfold failN
            rw [if_neg (by omega), if_pos h4, ← nI_add, ← nI_add]; rfl
          refine fin (100 + nI ((aS A k).2.2.2.2 4) + nI ((aS A k).2.2.2.2 0)) (exS s 13) (by rw [qhp_ex]; exact hg) (JC_ex hC) (JR_ex hR) (by rw [exS_len]; omega) (by rw [exS_N]; omega) (w_M_toss PR0_np (by decide) hA (JR_ex hR) hk8 h1 ⟨by rw [ef], rfl⟩)
        · rw [if_neg (show ¬ nI ((aS A k).2.2.2.2 1) = (4 : Int32) from fun z => h4 ((eK 4 (by decide)).mp z))] at hg
          have ef : failN (aS A k).2.2.2.2 = nI ((aS A k).2.2.2.2 0) := by
            unfold failN
            rw [if_neg (fun z => hs (Or.inl z)), if_neg h4]
            split
            · rename_i h5
              rw [if_neg (fun z => hs (Or.inr ⟨h5, z⟩))]
            · rfl
          exact fin (nI ((aS A k).2.2.2.2 0)) (exS s 12) (by rw [qhp_ex]; exact hg) (JC_ex hC) (JR_ex hR) (by rw [exS_len]; omega) (by rw [exS_N]; omega) (w_M_toss PR0_np (by decide) hA (JR_ex hR) hk8 h1 ⟨by rw [ef], rfl⟩)
    · have hx : gtoss [.ref 8, .int (nI k)] (qhp s) = some (some (.int (refU (aS A k).1 1)), qhp s) := by
        rcases (show (aS A k).1 = 0 ∨ (aS A k).1 = 2 by omega) with h | h
        · rw [hg, h, if_pos (by rfl)]; rfl
        · rw [hg, h, if_neg (by decide), if_pos (by rfl)]; rfl
      exact fin _ s hx hC hR (by omega) (by omega) (w_M_tossR PR0_np (by decide) hA hR hk8 h1 ⟨rfl, rfl⟩)
  · refine fin (-1) s ?_ hC hR (by omega) (by omega) (w_M_tossN PR0_np (by decide) hn ⟨rfl, rfl⟩)
    rw [tossF_q, if_neg hn]
