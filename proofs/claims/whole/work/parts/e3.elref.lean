/-! element: the reference's side, and both -/
section
variable {X : pm_X} {PR : pm_P}
theorem w_M_elemG (hP : pm_np PR) {d : Nat} (hd : 40 ≤ d) {s : QST} {A : AS} {Q : QPost} (hA : AOK A) (hJ : JR s A) {k i : Nat} (hk8 : k < 8) (h2 : (aS A k).1 = 2) (hi : i < (aS A k).2.2.1) (hk : Q (some (.long ((aS A k).2.2.2.1 i).toInt64)) (uF s 163 0 0)) : qP X PR d 257 [.ref 163, .int (nI k), .int (nI i)] s Q := by
  obtain ⟨s1, s2, s3, s4, s5⟩ := hA.2.2.2.2 k hk8
  obtain ⟨c1, c2, c3⟩ := hJ.2.2.2.2.1 k hk8
  obtain ⟨g1, g2, g3⟩ := c2 h2
  have r0 : refU (aS A k).1 2 = nI 0 := by rw [h2]; rfl
  have e9 : qF (uF s 163 0 0) 163 0 = 0 := qF_uFs
  refine qP.of (L := [_, _, _, _]) (by omega) (hP _ rfl) ms_Model_element rfl ?_
  show qW X PR (d - 1) (some .long) cd_Model_element 0 _ _ _ _
  refine qW.blk rfl ?_
  refine qv_aload rfl ?_
  refine qv_iload rfl ?_
  refine qv_virt (ly_163.rcv _) sg_Model_wrongRow rfl rfl (w_M_wrongRow hP (by omega) hk8 c1 s1 ?_) 
  refine qv_istore (L' := [_, _, _, _]) rfl ?_
  refine qv_aload rfl ?_
  refine qv_iload rfl ?_
  refine qv_iconst (v := (-1)) rfl ?_
  refine qv_icmp_ne_t (by rw [r0]; decide) (tgt := 2) rfl ?_
  refine qW.blk rfl ?_
  refine qv_iload rfl ?_
  refine qv_if_lt_f (by rw [r0]; decide) (nx := 3) rfl ?_
  refine qW.blk rfl ?_
  refine qv_iload rfl ?_
  refine qv_iconst (v := 0) rfl ?_
  refine qv_aload rfl ?_
  refine qv_gr ly_163 ⟨rfl, rfl, rfl⟩ (by omega) ?_
  refine qv_iload rfl ?_
  refine qv_ia ly_200 rfl (by omega) (by decide) (g2) ?_
  refine qv_iconst (v := 1) rfl ?_
  refine qv_isub ?_
  refine qv_staticE sg_Model_in rfl (r_Model_in hP (by omega) (nI i) (nI 0) (nI (aS A k).2.2.1 - 1) _) ?_
  refine qv_if_ne_t (bI_ne.mpr ((in_nI1 (by omega)).mpr ⟨i, hi, rfl⟩)) (tgt := 5) rfl ?_
  refine qW.blk rfl ?_
  refine qv_iconst (v := 0) rfl ?_
  refine qv_nil (nx := 6) rfl ?_
  refine qW.blk rfl ?_
  refine qv_pi ly_163 ⟨rfl, rfl, rfl⟩ (rfl) ?_
  refine qv_aload rfl ?_
  refine qv_gi ly_163 ⟨rfl, rfl, rfl⟩ rfl ?_
  refine qv_if_le_t (by rw [e9]; decide) (tgt := 8) rfl ?_
  refine qW.blk rfl ?_
  refine qv_aload rfl ?_
  refine qv_gr ly_163 ⟨rfl, rfl, rfl⟩ (by omega) ?_
  refine qv_iconst (v := 120) rfl ?_
  refine qv_iload rfl ?_
  refine qv_imulN (p := 120) rfl rfl ?_
  refine qv_iload rfl ?_
  refine qv_iaddN rfl rfl ?_
  refine qv_la ly_201 rfl (by omega) (by decide) rfl ?_
  refine qv_nil (nx := 9) rfl ?_
  refine qW.blk rfl ?_
  refine qv_lret rfl ?_
  have e : qL s 201 (120 * k + i) = ((aS A k).2.2.2.1 i).toInt64 := g3 i (by omega)
  show Q (some (.long (qL s 201 (120 * k + i)))) (uF s 163 0 0)
  rw [e]
  exact hk
theorem w_M_elemP (hP : pm_np PR) {d : Nat} (hd : 40 ≤ d) {s : QST} {A : AS} {Q : QPost} (hA : AOK A) (hJ : JR s A) {k : Nat} {b : Int32} (hk8 : k < 8) (h2 : (aS A k).1 = 2) (hb : ¬ ∃ i, i < (aS A k).2.2.1 ∧ b = nI i) (hk : Q (some (.long 0)) (uF s 163 0 2)) : qP X PR d 257 [.ref 163, .int (nI k), .int b] s Q := by
  obtain ⟨s1, s2, s3, s4, s5⟩ := hA.2.2.2.2 k hk8
  obtain ⟨c1, c2, c3⟩ := hJ.2.2.2.2.1 k hk8
  obtain ⟨g1, g2, g3⟩ := c2 h2
  have r0 : refU (aS A k).1 2 = nI 0 := by rw [h2]; rfl
  have hb' : ¬ (0 ≤ b ∧ b ≤ nI (aS A k).2.2.1 - 1) := fun z => hb ((in_nI1 (by omega)).mp z)
  have e9 : qF (uF s 163 0 2) 163 0 = 2 := qF_uFs
  refine qP.of (L := [_, _, _, _]) (by omega) (hP _ rfl) ms_Model_element rfl ?_
  show qW X PR (d - 1) (some .long) cd_Model_element 0 _ _ _ _
  refine qW.blk rfl ?_
  refine qv_aload rfl ?_
  refine qv_iload rfl ?_
  refine qv_virt (ly_163.rcv _) sg_Model_wrongRow rfl rfl (w_M_wrongRow hP (by omega) hk8 c1 s1 ?_) 
  refine qv_istore (L' := [_, _, _, _]) rfl ?_
  refine qv_aload rfl ?_
  refine qv_iload rfl ?_
  refine qv_iconst (v := (-1)) rfl ?_
  refine qv_icmp_ne_t (by rw [r0]; decide) (tgt := 2) rfl ?_
  refine qW.blk rfl ?_
  refine qv_iload rfl ?_
  refine qv_if_lt_f (by rw [r0]; decide) (nx := 3) rfl ?_
  refine qW.blk rfl ?_
  refine qv_iload rfl ?_
  refine qv_iconst (v := 0) rfl ?_
  refine qv_aload rfl ?_
  refine qv_gr ly_163 ⟨rfl, rfl, rfl⟩ (by omega) ?_
  refine qv_iload rfl ?_
  refine qv_ia ly_200 rfl (by omega) (by decide) (g2) ?_
  refine qv_iconst (v := 1) rfl ?_
  refine qv_isub ?_
  refine qv_staticE sg_Model_in rfl (r_Model_in hP (by omega) b (nI 0) (nI (aS A k).2.2.1 - 1) _) ?_
  refine qv_if_ne_f (fun zq => zq (bI_f (hb'))) (nx := 4) rfl ?_
  refine qW.blk rfl ?_
  refine qv_iconst (v := 2) rfl ?_
  refine qv_goto (tgt := 6) rfl ?_
  refine qW.blk rfl ?_
  refine qv_pi ly_163 ⟨rfl, rfl, rfl⟩ (rfl) ?_
  refine qv_aload rfl ?_
  refine qv_gi ly_163 ⟨rfl, rfl, rfl⟩ rfl ?_
  refine qv_if_le_f (by rw [e9]; decide) (nx := 7) rfl ?_
  refine qW.blk rfl ?_
  refine qv_lconst (v := 0) rfl ?_
  refine qv_goto (tgt := 9) rfl ?_
  refine qW.blk rfl ?_
  refine qv_lret rfl ?_
  exact hk
theorem w_M_elemR (hP : pm_np PR) {d : Nat} (hd : 40 ≤ d) {s : QST} {A : AS} {Q : QPost} (hA : AOK A) (hJ : JR s A) {k : Nat} {b : Int32} (hk8 : k < 8) (h2 : ¬ (aS A k).1 = 2) (hk : Q (some (.long 0)) (uF s 163 0 2)) : qP X PR d 257 [.ref 163, .int (nI k), .int b] s Q := by
  obtain ⟨s1, s2, s3, s4, s5⟩ := hA.2.2.2.2 k hk8
  obtain ⟨c1, c2, c3⟩ := hJ.2.2.2.2.1 k hk8
  have r0 : ¬ refU (aS A k).1 2 = -1 := by unfold refU; rw [if_neg h2]; split <;> decide
  have r1 : refU (aS A k).1 2 < 0 := by unfold refU; rw [if_neg h2]; split <;> decide
  have e9 : qF (uF s 163 0 2) 163 0 = 2 := qF_uFs
  refine qP.of (L := [_, _, _, _]) (by omega) (hP _ rfl) ms_Model_element rfl ?_
  show qW X PR (d - 1) (some .long) cd_Model_element 0 _ _ _ _
  refine qW.blk rfl ?_
  refine qv_aload rfl ?_
  refine qv_iload rfl ?_
  refine qv_virt (ly_163.rcv _) sg_Model_wrongRow rfl rfl (w_M_wrongRow hP (by omega) hk8 c1 s1 ?_) 
  refine qv_istore (L' := [_, _, _, _]) rfl ?_
  refine qv_aload rfl ?_
  refine qv_iload rfl ?_
  refine qv_iconst (v := (-1)) rfl ?_
  refine qv_icmp_ne_t (r0) (tgt := 2) rfl ?_
  refine qW.blk rfl ?_
  refine qv_iload rfl ?_
  refine qv_if_lt_t (r1) (tgt := 4) rfl ?_
  refine qW.blk rfl ?_
  refine qv_iconst (v := 2) rfl ?_
  refine qv_goto (tgt := 6) rfl ?_
  refine qW.blk rfl ?_
  refine qv_pi ly_163 ⟨rfl, rfl, rfl⟩ (rfl) ?_
  refine qv_aload rfl ?_
  refine qv_gi ly_163 ⟨rfl, rfl, rfl⟩ rfl ?_
  refine qv_if_le_f (by rw [e9]; decide) (nx := 7) rfl ?_
  refine qW.blk rfl ?_
  refine qv_lconst (v := 0) rfl ?_
  refine qv_goto (tgt := 9) rfl ?_
  refine qW.blk rfl ?_
  refine qv_lret rfl ?_
  exact hk
theorem w_M_elemN (hP : pm_np PR) {d : Nat} (hd : 40 ≤ d) {s : QST} {Q : QPost} {a b : Int32} (hn : ¬ ∃ m, m < 8 ∧ a = nI m) (hk : Q (some (.long 0)) (uF s 163 0 1)) : qP X PR d 257 [.ref 163, .int a, .int b] s Q := by
  have e9 : qF (uF s 163 0 1) 163 0 = 1 := qF_uFs
  have w : ∀ (d : Nat) (Q : QPost), 2 ≤ d → Q (some (.int (-1))) s → qP X PR d 255 [.ref 163, .int a] s Q := by
    intro d Q hd hk
    refine qP.of (L := [_, _]) (by omega) (hP _ rfl) ms_Model_wrongRow rfl ?_
    show qW X PR (d - 1) (some .int) cd_Model_wrongRow 0 _ _ _ _
    refine qW.blk rfl ?_
    refine qv_iload rfl ?_
    refine qv_iconst (v := 0) rfl ?_
    refine qv_iconst (v := 7) rfl ?_
    refine qv_staticE sg_Model_in rfl (r_Model_in hP (by omega) a 0 (nI 7) _) ?_
    refine qv_if_ne_f (fun zq => zq (bI_f (not7 hn))) (nx := 1) rfl ?_
    refine qW.blk rfl ?_
    refine qv_iconst (v := (-1)) rfl ?_
    refine qv_goto (tgt := 7) rfl ?_
    refine qW.blk rfl ?_
    refine qv_iret (rfl) ?_
    exact hk
  refine qP.of (L := [_, _, _, _]) (by omega) (hP _ rfl) ms_Model_element rfl ?_
  show qW X PR (d - 1) (some .long) cd_Model_element 0 _ _ _ _
  refine qW.blk rfl ?_
  refine qv_aload rfl ?_
  refine qv_iload rfl ?_
  refine qv_virt (ly_163.rcv _) sg_Model_wrongRow rfl rfl (w _ _ (by omega) ?_) 
  refine qv_istore (L' := [_, _, _, _]) rfl ?_
  refine qv_aload rfl ?_
  refine qv_iload rfl ?_
  refine qv_iconst (v := (-1)) rfl ?_
  refine qv_icmp_ne_f (fun z => z rfl) (nx := 1) rfl ?_
  refine qW.blk rfl ?_
  refine qv_iconst (v := 1) rfl ?_
  refine qv_goto (tgt := 6) rfl ?_
  refine qW.blk rfl ?_
  refine qv_pi ly_163 ⟨rfl, rfl, rfl⟩ (rfl) ?_
  refine qv_aload rfl ?_
  refine qv_gi ly_163 ⟨rfl, rfl, rfl⟩ rfl ?_
  refine qv_if_le_f (by rw [e9]; decide) (nx := 7) rfl ?_
  refine qW.blk rfl ?_
  refine qv_lconst (v := 0) rfl ?_
  refine qv_goto (tgt := 9) rfl ?_
  refine qW.blk rfl ?_
  refine qv_lret rfl ?_
  exact hk
theorem w_M_thrown (hP : pm_np PR) {d : Nat} (hd : 40 ≤ d) {s : QST} {Q : QPost} (hk : Q (some (.int (qF s 163 0))) s) : qP X PR d 162 [.ref 163] s Q := by
  refine qP.of (L := [_]) (by omega) (hP _ rfl) ms_Model_thrown rfl ?_
  show qW X PR (d - 1) (some .int) cd_Model_thrown 0 _ _ _ _
  refine qW.blk rfl ?_
  refine qv_aload rfl ?_
  refine qv_gi ly_163 ⟨rfl, rfl, rfl⟩ rfl ?_
  refine qv_iret (rfl) ?_
  exact hk
end
theorem JC_uL9 {s : QST} {A : AS} {x : Int64} (h : JC s A) : JC (uL s 203 0 x) A := h
theorem JR_uL9 {s : QST} {A : AS} {x : Int64} (h : JR s A) : JR (uL s 203 0 x) A := by
  obtain ⟨h1, h2, h3, h4, h5, h6⟩ := h
  exact ⟨h1, h2, h3, h4, fun d hd => (h5 d hd).cg (fun _ _ => rfl) (qL_uLc (by decide)), h6⟩
theorem elF_q {s : QST} {v i : Int32} : gel [.ref 8, .int v, .int i, .ref 203] (qhp s) = @ite _ (∃ k, k < 8 ∧ v = nI k) (Classical.propDecidable _)
  (if fI (qhp s) (123 + 5 * v.toNatClampNeg) 0 = 0 ∨ fI (qhp s) (123 + 5 * v.toNatClampNeg) 0 = 1 then some (some (.int 2), exH (qhp s) 12) else
    @ite _ (fI (qhp s) (123 + 5 * v.toNatClampNeg) 0 = 2 ∧ ∃ n, n ≤ 120 ∧ fI (qhp s) (123 + 5 * v.toNatClampNeg) 2 = nI n) (Classical.propDecidable _)
      (if 0 ≤ i ∧ i ≤ fI (qhp s) (123 + 5 * v.toNatClampNeg) 2 - 1 then some (some (.int 0), pm_put (qhp s) 203 (.inl (1, 1, .inr (.inl (vp_updL (lA (qhp s) 203) 0 (iA (qhp s) (123 + 5 * v.toNatClampNeg + 4) i.toNatClampNeg).toInt64))))) else some (some (.int 2), exH (qhp s) 12)) none)
  (some (some (.int 1), exH (qhp s) 11)) := by
  show elF (qhp s) v i = _
  unfold elF
  rw [if_pos ⟨s, rfl⟩]
theorem el_call {X : pm_X} {n : Nat} {s : QST} {a b : Int32} (hI : LI n s) : ∃ x y s1 s2, pm_run X pm_Ms (PR1 X) 101 262 [.ref 8, .int a, .int b, .ref 203] (qhp s) = some (some (.int x), qhp s1) ∧ pm_run X pm_Ms (PR1 X) 101 257 [.ref 163, .int a, .int b] (qhp s1) = some (some (.long y), qhp s2) ∧ pm_run X pm_Ms (PR1 X) 101 162 [.ref 163] (qhp s2) = some (some (.int x), qhp s2) ∧ (x = 0 → qL s2 203 0 = y) ∧ LI (n + 1) s2 := by
  obtain ⟨A, hA, hC, hR, n1, n2⟩ := hI
  have g2 : PRg X 257 = pm_run X pm_Ms PR0 100 257 := by unfold PRg; rw [if_neg (by decide), if_neg (by decide), if_neg (by decide)]
  have g3 : PRg X 162 = pm_run X pm_Ms PR0 100 162 := by unfold PRg; rw [if_neg (by decide), if_neg (by decide), if_neg (by decide)]
  have g1 : PRg X 262 = gel := by unfold PRg; rw [if_neg (by decide), if_pos (by rfl)]
  have fin : ∀ (x : Int32) (y : Int64) (s1 : QST), gel [.ref 8, .int a, .int b, .ref 203] (qhp s) = some (some (.int x), qhp s1) → JC s1 A → JR s1 A → (qR s1).length ≤ (qR s).length + 4 → qN s1 ≤ qN s + 400 → qP X PR0 100 257 [.ref 163, .int a, .int b] s1 (fun v s' => v = some (.long y) ∧ s' = uF s1 163 0 x) → (x = 0 → qL s1 203 0 = y) → ∃ x y s1 s2, pm_run X pm_Ms (PR1 X) 101 262 [.ref 8, .int a, .int b, .ref 203] (qhp s) = some (some (.int x), qhp s1) ∧ pm_run X pm_Ms (PR1 X) 101 257 [.ref 163, .int a, .int b] (qhp s1) = some (some (.long y), qhp s2) ∧ pm_run X pm_Ms (PR1 X) 101 162 [.ref 163] (qhp s2) = some (some (.int x), qhp s2) ∧ (x = 0 → qL s2 203 0 = y) ∧ LI (n + 1) s2 := by
    intro x y s1 hg h1 h2 e1 e2 hq hy
    obtain ⟨v, s', hr, rfl, rfl⟩ := hq
    obtain ⟨v, s', ht, rfl, rfl⟩ := w_M_thrown (X := X) PR0_np (d := 100) (by decide) (s := uF s1 163 0 x) (Q := fun v s' => v = some (.int x) ∧ s' = uF s1 163 0 x) ⟨by rw [qF_uFs], rfl⟩
    have z1 : pm_run X pm_Ms (PR1 X) 101 262 [.ref 8, .int a, .int b, .ref 203] (qhp s) = some (some (.int x), qhp s1) := by rw [run1, g1]; exact hg
    have z2 : pm_run X pm_Ms (PR1 X) 101 257 [.ref 163, .int a, .int b] (qhp s1) = some (some (.long y), qhp (uF s1 163 0 x)) := by rw [run1, g2]; exact hr
    have z3 : pm_run X pm_Ms (PR1 X) 101 162 [.ref 163] (qhp (uF s1 163 0 x)) = some (some (.int x), qhp (uF s1 163 0 x)) := by rw [run1, g3]; exact ht
    have z4 : x = 0 → qL (uF s1 163 0 x) 203 0 = y := hy
    have z5 : JR (uF s1 163 0 x) A := h2.thr
    have z6 : qfr 163 202 s1 (uF s1 163 0 x) := (qfr.rf s1).uF (by omega)
    have z7 : LI (n + 1) (uF s1 163 0 x) := LI_up hA h1 z5 z6 n1 n2 e1 e2
    exact ⟨x, y, s1, uF s1 163 0 x, z1, z2, z3, z4, z7⟩
  rcases pl_of a 8 with ⟨k, hk8, rfl⟩ | hn
  · have hg := elF_q (s := s) (v := nI k) (i := b)
    rw [if_pos ⟨k, hk8, rfl⟩, nI_clamp (by omega), fI_q (ly_sh hk8) rfl, fI_q (ly_sh hk8) rfl] at hg
    obtain ⟨c1, c2, c3⟩ := hC.2.2.2.2 k hk8
    obtain ⟨s1, s2, s3, s4, s5⟩ := hA.2.2.2.2 k hk8
    rw [c1] at hg
    by_cases h2 : (aS A k).1 = 2
    · obtain ⟨q1, q2, q3⟩ := c2 h2
      rw [h2, q2, if_neg (by decide), if_pos ⟨rfl, _, s3, rfl⟩] at hg
      rcases pl_of b (aS A k).2.2.1 with ⟨i, hi, rfl⟩ | hb
      · rw [if_pos ((in_nI1 (by omega)).mpr ⟨i, hi, rfl⟩), nI_clamp (by omega), iA_q (ly_shc hk8), lA_q ly_203, qhp_uL ly_203, q3 i (by omega)] at hg
        exact fin 0 _ (uL s 203 0 ((aS A k).2.2.2.1 i).toInt64) hg (JC_uL9 hC) (JR_uL9 hR) (Nat.le_add_right _ 4) (Nat.le_add_right _ 400) (w_M_elemG PR0_np (by decide) hA (JR_uL9 hR) hk8 h2 hi ⟨rfl, rfl⟩) (fun _ => qL_uLs)
      · rw [if_neg (fun z => hb ((in_nI1 (by omega)).mp z))] at hg
        exact fin 2 0 (exS s 12) (by rw [qhp_ex]; exact hg) (JC_ex hC) (JR_ex hR) (by rw [exS_len]; omega) (by rw [exS_N]; omega) (w_M_elemP PR0_np (by decide) hA (JR_ex hR) hk8 h2 hb ⟨rfl, rfl⟩) (fun z => absurd z (by decide))
    · have h3 : (nI (aS A k).1 = 0 ∨ nI (aS A k).1 = 1) := by
        rcases (show (aS A k).1 = 0 ∨ (aS A k).1 = 1 by omega) with h | h
        · rw [h]; exact Or.inl rfl
        · rw [h]; exact Or.inr rfl
      rw [if_pos h3] at hg
      exact fin 2 0 (exS s 12) (by rw [qhp_ex]; exact hg) (JC_ex hC) (JR_ex hR) (by rw [exS_len]; omega) (by rw [exS_N]; omega) (w_M_elemR PR0_np (by decide) hA (JR_ex hR) hk8 h2 ⟨rfl, rfl⟩) (fun z => absurd z (by decide))
  · have hg := elF_q (s := s) (v := a) (i := b)
    rw [if_neg hn] at hg
    exact fin 1 0 (exS s 11) (by rw [qhp_ex]; exact hg) (JC_ex hC) (JR_ex hR) (by rw [exS_len]; omega) (by rw [exS_N]; omega) (w_M_elemN PR0_np (by decide) hn ⟨rfl, rfl⟩) (fun z => absurd z (by decide))
