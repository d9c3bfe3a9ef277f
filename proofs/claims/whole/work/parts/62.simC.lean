/-! member, about, count are alike -/
def newP (C : Nat → Nat) (k v n e : Nat) : Nat → Nat := fun j => if j = 10 + C 2 then k else if j = 20 + C 2 then v else if j = 30 + C 2 then n else if j = 40 + C 2 then 0 else if j = 50 + C 2 then 0 else if 60 + 7 * C 2 ≤ j ∧ j < 60 + 7 * C 2 + e then 5 else if 130 + 7 * C 2 ≤ j ∧ j < 130 + 7 * C 2 + e then 5 else C j
def newM (C : Nat → Nat) (k v n : Nat) : Nat → Nat := updN (newP C k v n 7) 2 (C 2 + 1)
/-- outside the row of numbers the reference is as it was -/
def rst (s s' : QST) : Prop := qfr 163 202 s s' ∧ (∀ c, c ≠ 164 → qE s' c = qE s c) ∧ qL s' 201 = qL s 201 ∧ ∀ k, k ≠ 0 → qF s' 163 k = qF s 163 k
theorem rst.rf (s : QST) : rst s s := ⟨qfr.rf s, fun _ _ => rfl, rfl, fun _ _ => rfl⟩
theorem rst.sE {s t : QST} {k : Nat} {v : Int32} (h : rst s t) : rst s (uE t 164 k v) := ⟨h.1.uE (by omega), fun c hc => (qE_uEc hc).trans (h.2.1 c hc), h.2.2.1, h.2.2.2⟩
theorem rst.thr {s t : QST} {v : Int32} (h : rst s t) : rst s (uF t 163 0 v) := ⟨h.1.uF (by omega), h.2.1, h.2.2.1, fun k hk => (qF_uFk hk).trans (h.2.2.2 k hk)⟩
theorem JR.st {s s' : QST} {A : AS} {C' : Nat → Nat} (h : JR s A) (F : rst s s') (hC : rC s' 164 C') (e : C' 3 = aC A 3) : JR s' (C', A.2) := by
  obtain ⟨h1, h2, h3, h4, h5, h6⟩ := h
  obtain ⟨n1, n2, n3, n4, n5, n6⟩ := h6
  refine ⟨hC, fun z => (h2 z).cg (F.2.1 _ (by omega)), by rw [F.2.2.2 3 (by omega)]; exact h3, fun t ht => ?_, fun d hd => (h5 d hd).cg (fun c hc => F.2.1 c (by omega)) F.2.2.1, by rw [F.2.2.2 28 (by omega)]; exact n1, by rw [F.2.2.2 29 (by omega)]; exact n2, by rw [F.2.2.2 30 (by omega)]; exact n3, by rw [F.2.2.2 31 (by omega)]; exact n4, by rw [F.2.2.2 33 (by omega)]; exact n5, by rw [F.2.2.2 35 (by omega)]; exact n6⟩
  have ht' : t < aC A 3 := by rw [← e]; exact ht
  exact (h4 t ht').cg (fun c hc => F.2.1 c (by omega))
theorem rC.ext {s : QST} {a : Nat} {C C' : Nat → Nat} (h : rC s a C) (e : ∀ j, j < 200 → C' j = C j) : rC s a C' := fun k hk => by rw [e k hk]; exact h k hk
def sumN (f : Nat → Nat) : Nat → Nat
  | 0 => 0
  | n + 1 => sumN f n + f n
section
variable {X : pm_X} {PR : pm_P}
theorem Sim_member (hP : pm_np PR) (hX1 : X 1 = some (6, pm_tbf [0, 0, 5, 2, 2, 0])) (a t : Int32) : Sim X PR 109 165 [.int a, .int t] := by
  intro d A hd hA
  have hC := hA.1
  have hM := hC.2.2.2.1
  by_cases h0 : ∃ k, k ≤ 5 ∧ a = nI k ∧ ∃ j, j < 2 ^ 31 ∧ t = nI j ∧ 1 ≤ j / 10 ∧ j / 10 ≤ 9 ∧ j % 10 ≤ mostN k
  · obtain ⟨k, hk5, rfl, j, j1, rfl, j2, j3, j4⟩ := h0
    have hfit : k ≤ 5 ∧ j % 10 ≤ mostN k := ⟨hk5, j4⟩
    have hvo : nI 1 ≤ nI (j / 10) ∧ nI (j / 10) ≤ nI 9 := (w_iff (by omega) (by omega) (by omega)).mpr ⟨j2, j3⟩
    have hki : nI 0 ≤ nI k ∧ nI k ≤ nI 5 := (w_iff (by omega) (by omega) (by omega)).mpr ⟨by omega, hk5⟩
    by_cases hful : aC A 2 = 9
    · refine ⟨.int (-2), A, hA, ?_, ?_⟩
      · intro s Q hJ hk
        refine qP.of (L := [_, _, _, _]) (by omega) (hP _ rfl) ms_Desk_member rfl ?_
        show qW X PR (d - 1) (some .int) cd_Desk_member 0 _ _ _ _
        refine qW.blk rfl ?_
        refine qv_iload rfl ?_
        refine qv_if_ltNf rfl (by omega) (by omega) (nx := 1) rfl ?_
        refine qW.blk rfl ?_
        refine qv_iload rfl ?_
        refine qv_iconst (v := 10) rfl ?_
        refine qv_idivN (q := 10) rfl rfl (by omega) (by omega) (by omega) ?_
        refine qv_iconst (v := 1) rfl ?_
        refine qv_iconst (v := 9) rfl ?_
        refine qv_staticE sg_Desk_within rfl (r_Desk_within hP (by omega) (nI (j / 10)) (nI 1) (nI 9) _) ?_
        refine qv_if_eq_f (bI_ne.mpr (hvo)) (nx := 2) rfl ?_
        refine qW.blk rfl ?_
        refine qv_iload rfl ?_
        refine qv_iload rfl ?_
        refine qv_iconst (v := 10) rfl ?_
        refine qv_iremN (q := 10) rfl rfl (by omega) (by omega) (by omega) ?_
        refine qv_staticE sg_Desk_fits rfl (r_Desk_fits hP hX1 (by omega) (nI k) (nI (j % 10)) (fit_iff (by omega) (by omega))) ?_
        refine qv_if_ne_t (bI_ne.mpr (hfit)) (tgt := 4) rfl ?_
        refine qW.blk rfl ?_
        refine qv_aload rfl ?_
        refine qv_gr ly_8 ⟨rfl, rfl, rfl⟩ (by omega) ?_
        refine qv_gi ly_9 ⟨rfl, rfl, rfl⟩ (hJ.1.2.2.1) ?_
        refine qv_iconst (v := 9) rfl ?_
        refine qv_icmp_ltNf (q := 9) rfl rfl (by omega) (by omega) (by omega) (nx := 5) rfl ?_
        refine qW.blk rfl ?_
        refine qv_iconst (v := (-2)) rfl ?_
        refine qv_iret (rfl) ?_
        exact hk s hJ (cfr.rf s)
      · intro s Q hJ hk
        refine qP.of (L := [_, _, _, _, _]) (by omega) (hP _ rfl) ms_Model_member rfl ?_
        show qW X PR (d - 1) (some .int) cd_Model_member 0 _ _ _ _
        refine qW.blk rfl ?_
        refine qv_aload rfl ?_
        refine qv_iconst (v := 0) rfl ?_
        refine qv_pi ly_163 ⟨rfl, rfl, rfl⟩ (rfl) ?_
        refine qv_iload rfl ?_
        refine qv_iconst (v := 0) rfl ?_
        refine qv_iconst (v := 5) rfl ?_
        refine qv_staticE sg_Model_in rfl (r_Model_in hP (by omega) (nI k) (nI 0) (nI 5) _) ?_
        refine qv_if_eq_f (bI_ne.mpr (hki)) (nx := 1) rfl ?_
        refine qW.blk rfl ?_
        refine qv_iload rfl ?_
        refine qv_if_ltNf rfl (by omega) (by omega) (nx := 2) rfl ?_
        refine qW.blk rfl ?_
        refine qv_iload rfl ?_
        refine qv_iconst (v := 10) rfl ?_
        refine qv_idivN (q := 10) rfl rfl (by omega) (by omega) (by omega) ?_
        refine qv_iconst (v := 1) rfl ?_
        refine qv_iconst (v := 9) rfl ?_
        refine qv_staticE sg_Model_in rfl (r_Model_in hP (by omega) (nI (j / 10)) (nI 1) (nI 9) _) ?_
        refine qv_if_eq_f (bI_ne.mpr (hvo)) (nx := 3) rfl ?_
        refine qW.blk rfl ?_
        refine qv_iload rfl ?_
        refine qv_iload rfl ?_
        refine qv_iconst (v := 10) rfl ?_
        refine qv_iremN (q := 10) rfl rfl (by omega) (by omega) (by omega) ?_
        refine qv_static sg_Model_isNumber rfl (w_M_isNumber hP (by omega) hk5 (nI (j % 10)) ?_) 
        refine qv_if_ne_t (bI_ne.mpr ((in_nI (by have := mostN_le (k := k); omega)).mpr ⟨_, j4, rfl⟩)) (tgt := 5) rfl ?_
        refine qW.blk rfl ?_
        refine qv_aload rfl ?_
        refine qv_gr ly_163 ⟨rfl, rfl, rfl⟩ (by omega) ?_
        refine qv_iconst (v := 2) rfl ?_
        refine qv_ia (j := 2) ly_164 rfl (by omega) (by decide) (hJ.thr.1 2 (by decide)) ?_
        refine qv_iconst (v := 9) rfl ?_
        refine qv_icmp_neNf (q := 9) rfl rfl (by omega) (by omega) (by omega) (nx := 6) rfl ?_
        refine qW.blk rfl ?_
        refine qv_iconst (v := (-2)) rfl ?_
        refine qv_iret (rfl) ?_
        exact hk (uF s 163 0 0) hJ.thr ((qfr.rf s).uF (by omega))
    · have hM8 : aC A 2 < 9 := by omega
      obtain ⟨M, hMe⟩ : ∃ M, aC A 2 = M := ⟨_, rfl⟩
      have nP : ∀ i, i ≠ 2 → newM (aC A) k (j / 10) (j % 10) i = newP (aC A) k (j / 10) (j % 10) 7 i := fun i hi => updN_n hi
      have n2 : newM (aC A) k (j / 10) (j % 10) 2 = M + 1 := by rw [← hMe]; exact updN_s
      have nlo : ∀ i, i < 10 → i ≠ 2 → newM (aC A) k (j / 10) (j % 10) i = aC A i := fun i h1 h2 => by
        rw [nP i h2]; unfold newP
        rw [if_neg (by omega), if_neg (by omega), if_neg (by omega), if_neg (by omega), if_neg (by omega), if_neg (by omega), if_neg (by omega)]
      have nold : ∀ m, m < 9 → m ≠ M → (∀ q, q < 5 → newM (aC A) k (j / 10) (j % 10) (10 + 10 * q + m) = aC A (10 + 10 * q + m)) ∧ ∀ e, e < 7 → newM (aC A) k (j / 10) (j % 10) (60 + 7 * m + e) = aC A (60 + 7 * m + e) ∧ newM (aC A) k (j / 10) (j % 10) (130 + 7 * m + e) = aC A (130 + 7 * m + e) := by
        intro m hm hne
        refine ⟨fun q hq => ?_, fun e he => ⟨?_, ?_⟩⟩
        · rw [nP _ (by omega)]; unfold newP
          rw [if_neg (by omega), if_neg (by omega), if_neg (by omega), if_neg (by omega), if_neg (by omega), if_neg (by omega), if_neg (by omega)]
        · rw [nP _ (by omega)]; unfold newP
          rw [if_neg (by omega), if_neg (by omega), if_neg (by omega), if_neg (by omega), if_neg (by omega), if_neg (by omega), if_neg (by omega)]
        · rw [nP _ (by omega)]; unfold newP
          rw [if_neg (by omega), if_neg (by omega), if_neg (by omega), if_neg (by omega), if_neg (by omega), if_neg (by omega), if_neg (by omega)]
      have n10 : newM (aC A) k (j / 10) (j % 10) (10 + M) = k := by rw [nP _ (by omega)]; unfold newP; rw [if_pos (by omega)]
      have n20 : newM (aC A) k (j / 10) (j % 10) (20 + M) = j / 10 := by rw [nP _ (by omega)]; unfold newP; rw [if_neg (by omega), if_pos (by omega)]
      have n30 : newM (aC A) k (j / 10) (j % 10) (30 + M) = j % 10 := by rw [nP _ (by omega)]; unfold newP; rw [if_neg (by omega), if_neg (by omega), if_pos (by omega)]
      have n40 : newM (aC A) k (j / 10) (j % 10) (40 + M) = 0 := by rw [nP _ (by omega)]; unfold newP; rw [if_neg (by omega), if_neg (by omega), if_neg (by omega), if_pos (by omega)]
      have n50 : newM (aC A) k (j / 10) (j % 10) (50 + M) = 0 := by rw [nP _ (by omega)]; unfold newP; rw [if_neg (by omega), if_neg (by omega), if_neg (by omega), if_neg (by omega), if_pos (by omega)]
      have n60 : ∀ e, e < 7 → newM (aC A) k (j / 10) (j % 10) (60 + 7 * M + e) = 5 := fun e he => by rw [nP _ (by omega)]; unfold newP; rw [if_neg (by omega), if_neg (by omega), if_neg (by omega), if_neg (by omega), if_neg (by omega), if_pos (by omega)]
      have n130 : ∀ e, e < 7 → newM (aC A) k (j / 10) (j % 10) (130 + 7 * M + e) = 5 := fun e he => by rw [nP _ (by omega)]; unfold newP; rw [if_neg (by omega), if_neg (by omega), if_neg (by omega), if_neg (by omega), if_neg (by omega), if_neg (by omega), if_pos (by omega)]
      have hC' : CB (newM (aC A) k (j / 10) (j % 10)) := by
        obtain ⟨c1, c2, c3, c4, c5, c6⟩ := hC
        refine ⟨by rw [nlo 0 (by omega) (by omega)]; exact c1, by rw [nlo 0 (by omega) (by omega)]; exact c2, by rw [nlo 1 (by omega) (by omega)]; exact c3, by rw [n2]; omega, by rw [nlo 3 (by omega) (by omega)]; exact c5, fun m hm => ?_⟩
        rw [n2] at hm
        by_cases hmm : m = M
        · subst hmm
          rw [n10, n20, n30, n40, n50]
          exact ⟨hk5, j2, j3, j4, by omega, by omega, fun e he => by rw [n60 e he, n130 e he]; omega⟩
        · obtain ⟨g1, g2⟩ := nold m (by omega) hmm
          have e0 := g1 0 (by omega)
          have e1 := g1 1 (by omega)
          have e2 := g1 2 (by omega)
          have e3 := g1 3 (by omega)
          have e4 := g1 4 (by omega)
          simp only [Nat.mul_zero, Nat.add_zero, Nat.reduceMul, Nat.reduceAdd] at e0 e1 e2 e3 e4
          rw [e0, e1, e2, e3, e4]
          obtain ⟨d1, d2, d3, d4, d5, d6, d7⟩ := c6 m (by omega)
          exact ⟨d1, d2, d3, d4, d5, d6, fun e he => by rw [(g2 e he).1, (g2 e he).2]; exact d7 e he⟩
      refine ⟨.int (nI M), (newM (aC A) k (j / 10) (j % 10), A.2), hA.upd hC' (nlo 3 (by omega) (by omega)), ?_, ?_⟩
      · intro s Q hJ hk
        have e2 : qF s 9 2 = nI M := by rw [← hMe]; exact hJ.1.2.2.1
        refine qP.of (L := [_, _, _, _]) (by omega) (hP _ rfl) ms_Desk_member rfl ?_
        show qW X PR (d - 1) (some .int) cd_Desk_member 0 _ _ _ _
        refine qW.blk rfl ?_
        refine qv_iload rfl ?_
        refine qv_if_ltNf rfl (by omega) (by omega) (nx := 1) rfl ?_
        refine qW.blk rfl ?_
        refine qv_iload rfl ?_
        refine qv_iconst (v := 10) rfl ?_
        refine qv_idivN (q := 10) rfl rfl (by omega) (by omega) (by omega) ?_
        refine qv_iconst (v := 1) rfl ?_
        refine qv_iconst (v := 9) rfl ?_
        refine qv_staticE sg_Desk_within rfl (r_Desk_within hP (by omega) (nI (j / 10)) (nI 1) (nI 9) _) ?_
        refine qv_if_eq_f (bI_ne.mpr (hvo)) (nx := 2) rfl ?_
        refine qW.blk rfl ?_
        refine qv_iload rfl ?_
        refine qv_iload rfl ?_
        refine qv_iconst (v := 10) rfl ?_
        refine qv_iremN (q := 10) rfl rfl (by omega) (by omega) (by omega) ?_
        refine qv_staticE sg_Desk_fits rfl (r_Desk_fits hP hX1 (by omega) (nI k) (nI (j % 10)) (fit_iff (by omega) (by omega))) ?_
        refine qv_if_ne_t (bI_ne.mpr (hfit)) (tgt := 4) rfl ?_
        refine qW.blk rfl ?_
        refine qv_aload rfl ?_
        refine qv_gr ly_8 ⟨rfl, rfl, rfl⟩ (by omega) ?_
        refine qv_gi ly_9 ⟨rfl, rfl, rfl⟩ (e2) ?_
        refine qv_iconst (v := 9) rfl ?_
        refine qv_icmp_ltNt (q := 9) rfl rfl (by omega) (by omega) (by omega) (tgt := 6) rfl ?_
        refine qW.blk rfl ?_
        refine qv_aload rfl ?_
        refine qv_gr ly_8 ⟨rfl, rfl, rfl⟩ (by omega) ?_
        refine qv_gi ly_9 ⟨rfl, rfl, rfl⟩ (e2) ?_
        refine qv_istore (L' := [_, _, _, _]) rfl ?_
        refine qv_aload rfl ?_
        refine qv_gr ly_8 ⟨rfl, rfl, rfl⟩ (by omega) ?_
        refine qv_gr ly_9 ⟨rfl, rfl, rfl⟩ (by omega) ?_
        refine qv_iload rfl ?_
        refine qv_aa (j := M) (r := 12 + 3 * M) ly_10 rfl (show _ < 9 by omega) (by decide) rfl ?_
        refine qv_iload rfl ?_
        refine qv_iload rfl ?_
        refine qv_iload rfl ?_
        refine qv_iconst (v := 10) rfl ?_
        refine qv_idivN (q := 10) rfl rfl (by omega) (by omega) (by omega) ?_
        refine qv_iload rfl ?_
        refine qv_iconst (v := 10) rfl ?_
        refine qv_iremN (q := 10) rfl rfl (by omega) (by omega) (by omega) ?_
        refine qv_virt ((mb_now (m := M) (by omega)).1.rcv _) sg_Member_begin rfl rfl (w_Member_begin hP (by omega) (mb_now (m := M) (by omega)) (nI M) (nI k) (nI (j / 10)) (nI (j % 10)) (fun s1 F1 b0 b1 b2 b3 b4 b5 b6 => ?_)) 
        refine qv_aload rfl ?_
        refine qv_gr ly_8 ⟨rfl, rfl, rfl⟩ (by omega) ?_
        refine qv_iload rfl ?_
        refine qv_iconst (v := 1) rfl ?_
        refine qv_iaddN (q := 1) rfl rfl ?_
        refine qv_pi ly_9 ⟨rfl, rfl, rfl⟩ (rfl) ?_
        refine qv_iload rfl ?_
        refine qv_iret (rfl) ?_
        have F : qfr 9 38 s (uF s1 9 2 (nI (M + 1))) := (F1.mono (by omega) (by omega)).uF (by omega)
        have hT : qT (uF s1 9 2 (nI (M + 1))) 11 = qT s 11 := F1.T (by omega)
        refine hk _ ⟨⟨?_, ?_, ?_, ?_, fun m hm => ?_⟩, hJ.2.fr hA F (Or.inl ⟨by omega, by omega, hT⟩) rfl rfl (nlo 3 (by omega) (by omega)) rfl rfl⟩ (F.c (by omega) (by omega))
        · rw [qF_uFk (by omega), F1.f (by omega), hJ.1.1]; exact congrArg nI (nlo 0 (by omega) (by omega)).symm
        · rw [qF_uFk (by omega), F1.f (by omega), hJ.1.2.1]; exact congrArg nI (nlo 1 (by omega) (by omega)).symm
        · rw [qF_uFs]; exact congrArg nI n2.symm
        · rw [qF_uFk (by omega), F1.f (by omega), hJ.1.2.2.2.1]; exact congrArg nI (nlo 3 (by omega) (by omega)).symm
        · have hm' : m < M + 1 := by rw [← n2]; exact hm
          by_cases hmm : m = M
          · subst hmm
            show cM (uF s1 9 2 (nI (m + 1))) (12 + 3 * m) m (newM (aC A) k (j / 10) (j % 10))
            refine ⟨?_, ?_, ?_, ?_, ?_, ?_, fun e he => ⟨?_, ?_⟩⟩
            · rw [qF_uFc (by omega)]; exact b0
            · rw [qF_uFc (by omega), n10]; exact b1
            · rw [qF_uFc (by omega), n20]; exact b2
            · rw [qF_uFc (by omega), n30]; exact b3
            · rw [qF_uFc (by omega), n40]; exact b4
            · rw [qF_uFc (by omega), n50]; exact b5
            · rw [n60 e he]; exact (b6 e he).1
            · rw [n130 e he]; exact (b6 e he).2
          · obtain ⟨g1, g2⟩ := nold m (by omega) hmm
            exact ((hJ.1.2.2.2.2 m (by omega)).cg ((qF_uFc (by omega)).trans (F1.F (by omega))) (F1.E (by omega)) (F1.E (by omega))).upd g1 g2
      · intro s Q hJ hk
        have e2 : qE (uF s 163 0 0) 164 2 = nI M := by rw [← hMe]; exact hJ.thr.1 2 (by decide)
        refine qP.of (L := [_, _, _, _, _]) (by omega) (hP _ rfl) ms_Model_member rfl ?_
        show qW X PR (d - 1) (some .int) cd_Model_member 0 _ _ _ _
        have loop : ∀ (q e : Nat) (s1 : QST), e + q = 7 → rst s s1 → rC s1 164 (newP (aC A) k (j / 10) (j % 10) e) → qW X PR (d - 1) (some .int) cd_Model_member 8 [some (.ref (163)), some (.int (nI k)), some (.int (nI j)), some (.int (nI M)), some (.int (nI e))] [] s1 Q := by
          intro q
          induction q with
          | zero =>
            intro e s1 he F1 h1
            have e7 : e = 7 := by omega
            subst e7
            have r2 : qE s1 164 2 = nI M := by
              rw [h1 2 (by decide)]; unfold newP
              rw [if_neg (by omega), if_neg (by omega), if_neg (by omega), if_neg (by omega), if_neg (by omega), if_neg (by omega), if_neg (by omega), hMe]
            refine qW.blk rfl ?_
            refine qv_iload rfl ?_
            refine qv_iconst (v := 7) rfl ?_
            refine qv_icmp_geNt (q := 7) rfl rfl (by omega) (by omega) (by omega) (tgt := 10) rfl ?_
            refine qW.blk rfl ?_
            refine qv_aload rfl ?_
            refine qv_gr ly_163 ⟨rfl, rfl, rfl⟩ (by omega) ?_
            refine qv_iconst (v := 2) rfl ?_
            refine qv_dup2 rfl rfl ?_
            refine qv_ia (j := 2) ly_164 rfl (by omega) (by decide) (r2) ?_
            refine qv_iconst (v := 1) rfl ?_
            refine qv_iaddN (q := 1) rfl rfl ?_
            refine qv_is (j := 2) ly_164 rfl (by omega) (by decide) ?_
            refine qv_iload rfl ?_
            refine qv_iret (rfl) ?_
            refine hk _ (hJ.st F1.sE ?_ (nlo 3 (by omega) (by omega))) (F1.1.uE (by omega))
            have := h1.upd (k := 2) (v := M + 1)
            rw [← hMe] at this ⊢
            exact this
          | succ q ih =>
            intro e s1 he F1 h1
            refine qW.blk rfl ?_
            refine qv_iload rfl ?_
            refine qv_iconst (v := 7) rfl ?_
            refine qv_icmp_geNf (q := 7) rfl rfl (by omega) (by omega) (by omega) (nx := 9) rfl ?_
            refine qW.blk rfl ?_
            refine qv_aload rfl ?_
            refine qv_gr ly_163 ⟨rfl, rfl, rfl⟩ (by omega) ?_
            refine qv_iconst (v := 60) rfl ?_
            refine qv_iconst (v := 7) rfl ?_
            refine qv_iload rfl ?_
            refine qv_imulN (p := 7) rfl rfl ?_
            refine qv_iaddN (p := 60) rfl rfl ?_
            refine qv_iload rfl ?_
            refine qv_iaddN rfl rfl ?_
            refine qv_iconst (v := 5) rfl ?_
            refine qv_is ly_164 rfl (by omega) (by decide) ?_
            refine qv_aload rfl ?_
            refine qv_gr ly_163 ⟨rfl, rfl, rfl⟩ (by omega) ?_
            refine qv_iconst (v := 130) rfl ?_
            refine qv_iconst (v := 7) rfl ?_
            refine qv_iload rfl ?_
            refine qv_imulN (p := 7) rfl rfl ?_
            refine qv_iaddN (p := 130) rfl rfl ?_
            refine qv_iload rfl ?_
            refine qv_iaddN rfl rfl ?_
            refine qv_iconst (v := 5) rfl ?_
            refine qv_is ly_164 rfl (by omega) (by decide) ?_
            refine qv_iinc (L' := [_, _, _, _, _]) rfl (nI_succ _).symm rfl ?_
            refine qv_goto (tgt := 8) rfl ?_
            refine ih (e + 1) _ (by omega) F1.sE.sE (((h1.upd (k := 60 + 7 * M + e) (v := 5)).upd (k := 130 + 7 * M + e) (v := 5)).ext (fun i hi => ?_))
            unfold newP updN
            by_cases i1 : i = 130 + 7 * M + e
            · rw [if_pos i1, if_neg (by omega), if_neg (by omega), if_neg (by omega), if_neg (by omega), if_neg (by omega), if_neg (by omega), if_pos (by omega)]
            · rw [if_neg i1]
              by_cases i2 : i = 60 + 7 * M + e
              · rw [if_pos i2, if_neg (by omega), if_neg (by omega), if_neg (by omega), if_neg (by omega), if_neg (by omega), if_pos (by omega)]
              · rw [if_neg i2]
                have x1 : (60 + 7 * aC A 2 ≤ i ∧ i < 60 + 7 * aC A 2 + (e + 1)) ↔ (60 + 7 * aC A 2 ≤ i ∧ i < 60 + 7 * aC A 2 + e) := by omega
                have x2 : (130 + 7 * aC A 2 ≤ i ∧ i < 130 + 7 * aC A 2 + (e + 1)) ↔ (130 + 7 * aC A 2 ≤ i ∧ i < 130 + 7 * aC A 2 + e) := by omega
                simp only [x1, x2]
        refine qW.blk rfl ?_
        refine qv_aload rfl ?_
        refine qv_iconst (v := 0) rfl ?_
        refine qv_pi ly_163 ⟨rfl, rfl, rfl⟩ (rfl) ?_
        refine qv_iload rfl ?_
        refine qv_iconst (v := 0) rfl ?_
        refine qv_iconst (v := 5) rfl ?_
        refine qv_staticE sg_Model_in rfl (r_Model_in hP (by omega) (nI k) (nI 0) (nI 5) _) ?_
        refine qv_if_eq_f (bI_ne.mpr (hki)) (nx := 1) rfl ?_
        refine qW.blk rfl ?_
        refine qv_iload rfl ?_
        refine qv_if_ltNf rfl (by omega) (by omega) (nx := 2) rfl ?_
        refine qW.blk rfl ?_
        refine qv_iload rfl ?_
        refine qv_iconst (v := 10) rfl ?_
        refine qv_idivN (q := 10) rfl rfl (by omega) (by omega) (by omega) ?_
        refine qv_iconst (v := 1) rfl ?_
        refine qv_iconst (v := 9) rfl ?_
        refine qv_staticE sg_Model_in rfl (r_Model_in hP (by omega) (nI (j / 10)) (nI 1) (nI 9) _) ?_
        refine qv_if_eq_f (bI_ne.mpr (hvo)) (nx := 3) rfl ?_
        refine qW.blk rfl ?_
        refine qv_iload rfl ?_
        refine qv_iload rfl ?_
        refine qv_iconst (v := 10) rfl ?_
        refine qv_iremN (q := 10) rfl rfl (by omega) (by omega) (by omega) ?_
        refine qv_static sg_Model_isNumber rfl (w_M_isNumber hP (by omega) hk5 (nI (j % 10)) ?_) 
        refine qv_if_ne_t (bI_ne.mpr ((in_nI (by have := mostN_le (k := k); omega)).mpr ⟨_, j4, rfl⟩)) (tgt := 5) rfl ?_
        refine qW.blk rfl ?_
        refine qv_aload rfl ?_
        refine qv_gr ly_163 ⟨rfl, rfl, rfl⟩ (by omega) ?_
        refine qv_iconst (v := 2) rfl ?_
        refine qv_ia (j := 2) ly_164 rfl (by omega) (by decide) (e2) ?_
        refine qv_iconst (v := 9) rfl ?_
        refine qv_icmp_neNt (q := 9) rfl rfl (by omega) (by omega) (by omega) (tgt := 7) rfl ?_
        refine qW.blk rfl ?_
        refine qv_aload rfl ?_
        refine qv_gr ly_163 ⟨rfl, rfl, rfl⟩ (by omega) ?_
        refine qv_iconst (v := 2) rfl ?_
        refine qv_ia (j := 2) ly_164 rfl (by omega) (by decide) (e2) ?_
        refine qv_istore (L' := [_, _, _, _, _]) rfl ?_
        refine qv_aload rfl ?_
        refine qv_gr ly_163 ⟨rfl, rfl, rfl⟩ (by omega) ?_
        refine qv_iconst (v := 10) rfl ?_
        refine qv_iload rfl ?_
        refine qv_iaddN (p := 10) rfl rfl ?_
        refine qv_iload rfl ?_
        refine qv_is ly_164 rfl (by omega) (by decide) ?_
        refine qv_aload rfl ?_
        refine qv_gr ly_163 ⟨rfl, rfl, rfl⟩ (by omega) ?_
        refine qv_iconst (v := 20) rfl ?_
        refine qv_iload rfl ?_
        refine qv_iaddN (p := 20) rfl rfl ?_
        refine qv_iload rfl ?_
        refine qv_iconst (v := 10) rfl ?_
        refine qv_idivN (q := 10) rfl rfl (by omega) (by omega) (by omega) ?_
        refine qv_is ly_164 rfl (by omega) (by decide) ?_
        refine qv_aload rfl ?_
        refine qv_gr ly_163 ⟨rfl, rfl, rfl⟩ (by omega) ?_
        refine qv_iconst (v := 30) rfl ?_
        refine qv_iload rfl ?_
        refine qv_iaddN (p := 30) rfl rfl ?_
        refine qv_iload rfl ?_
        refine qv_iconst (v := 10) rfl ?_
        refine qv_iremN (q := 10) rfl rfl (by omega) (by omega) (by omega) ?_
        refine qv_is ly_164 rfl (by omega) (by decide) ?_
        refine qv_aload rfl ?_
        refine qv_gr ly_163 ⟨rfl, rfl, rfl⟩ (by omega) ?_
        refine qv_iconst (v := 40) rfl ?_
        refine qv_iload rfl ?_
        refine qv_iaddN (p := 40) rfl rfl ?_
        refine qv_iconst (v := 0) rfl ?_
        refine qv_is ly_164 rfl (by omega) (by decide) ?_
        refine qv_aload rfl ?_
        refine qv_gr ly_163 ⟨rfl, rfl, rfl⟩ (by omega) ?_
        refine qv_iconst (v := 50) rfl ?_
        refine qv_iload rfl ?_
        refine qv_iaddN (p := 50) rfl rfl ?_
        refine qv_iconst (v := 0) rfl ?_
        refine qv_is ly_164 rfl (by omega) (by decide) ?_
        refine qv_iconst (v := 0) rfl ?_
        refine qv_istore (L' := [_, _, _, _, _]) rfl ?_
        refine qv_nil (nx := 8) rfl ?_
        refine loop 7 0 _ (by omega) (rst.rf s).thr.sE.sE.sE.sE.sE (((((hJ.thr.1.upd (k := 10 + M) (v := k)).upd (k := 20 + M) (v := j / 10)).upd (k := 30 + M) (v := j % 10)).upd (k := 40 + M) (v := 0)).upd (k := 50 + M) (v := 0) |>.ext (fun i hi => ?_))
        unfold newP updN
        rw [hMe, if_neg (c := 60 + 7 * M ≤ i ∧ i < 60 + 7 * M + 0) (by omega), if_neg (c := 130 + 7 * M ≤ i ∧ i < 130 + 7 * M + 0) (by omega)]
        by_cases i1 : i = 10 + M
        · rw [if_pos i1, if_neg (by omega), if_neg (by omega), if_neg (by omega), if_neg (by omega), if_pos i1]
        by_cases i2 : i = 20 + M
        · rw [if_neg i1, if_pos i2, if_neg (by omega), if_neg (by omega), if_neg (by omega), if_pos i2]
        by_cases i3 : i = 30 + M
        · rw [if_neg i1, if_neg i2, if_pos i3, if_neg (by omega), if_neg (by omega), if_pos i3]
        by_cases i4 : i = 40 + M
        · rw [if_neg i1, if_neg i2, if_neg i3, if_pos i4, if_neg (by omega), if_pos i4]
        by_cases i5 : i = 50 + M
        · rw [if_neg i1, if_neg i2, if_neg i3, if_neg i4, if_pos i5, if_pos i5]
        · rw [if_neg i1, if_neg i2, if_neg i3, if_neg i4, if_neg i5, if_neg i5, if_neg i4, if_neg i3, if_neg i2, if_neg i1]
  · refine ⟨.int (-1), A, hA, ?_, ?_⟩
    · intro s Q hJ hk
      have fin := hk s hJ (cfr.rf s)
      refine qP.of (L := [_, _, _, _]) (by omega) (hP _ rfl) ms_Desk_member rfl ?_
      show qW X PR (d - 1) (some .int) cd_Desk_member 0 _ _ _ _
      by_cases ht : t < 0
      · refine qW.blk rfl ?_
        refine qv_iload rfl ?_
        refine qv_if_lt_t (ht) (tgt := 3) rfl ?_
        refine qW.blk rfl ?_
        refine qv_iconst (v := (-1)) rfl ?_
        refine qv_iret (rfl) ?_
        exact fin
      · obtain ⟨j, j1, rfl⟩ := nI_of ht
        have b0 : qW X PR (d - 1) (some .int) cd_Desk_member 0 [some (.ref (8)), some (.int (a)), some (.int (nI j)), none] [] s Q := by
          by_cases hvo : nI 1 ≤ nI (j / 10) ∧ nI (j / 10) ≤ nI 9
          · have hv := (w_iff (lo := 1) (hi := 9) (by omega) (by omega) (by omega)).mp hvo
            have hfit : False ↔ ∃ k, (k ≤ 5 ∧ a = nI k) ∧ ∃ n, n ≤ mostN k ∧ nI (j % 10) = nI n := by
              refine ⟨False.elim, ?_⟩
              rintro ⟨k, ⟨z1, z2⟩, n, z3, z4⟩
              have e2 := (nI_eq (a := j % 10) (b := n) (by omega) (by have := mostN_le (k := k); omega)).mp z4
              exact h0 ⟨k, z1, z2, j, j1, rfl, hv.1, hv.2, by rw [e2]; exact z3⟩
            refine qW.blk rfl ?_
            refine qv_iload rfl ?_
            refine qv_if_ltNf rfl (by omega) (by omega) (nx := 1) rfl ?_
            refine qW.blk rfl ?_
            refine qv_iload rfl ?_
            refine qv_iconst (v := 10) rfl ?_
            refine qv_idivN (q := 10) rfl rfl (by omega) (by omega) (by omega) ?_
            refine qv_iconst (v := 1) rfl ?_
            refine qv_iconst (v := 9) rfl ?_
            refine qv_staticE sg_Desk_within rfl (r_Desk_within hP (by omega) (nI (j / 10)) (nI 1) (nI 9) _) ?_
            refine qv_if_eq_f (bI_ne.mpr (hvo)) (nx := 2) rfl ?_
            refine qW.blk rfl ?_
            refine qv_iload rfl ?_
            refine qv_iload rfl ?_
            refine qv_iconst (v := 10) rfl ?_
            refine qv_iremN (q := 10) rfl rfl (by omega) (by omega) (by omega) ?_
            refine qv_staticE sg_Desk_fits rfl (r_Desk_fits hP hX1 (by omega) a (nI (j % 10)) hfit) ?_
            refine qv_if_ne_f (fun zq => zq (bI_f (fun z => z))) (nx := 3) rfl ?_
            refine qW.blk rfl ?_
            refine qv_iconst (v := (-1)) rfl ?_
            refine qv_iret (rfl) ?_
            exact fin
          · refine qW.blk rfl ?_
            refine qv_iload rfl ?_
            refine qv_if_ltNf rfl (by omega) (by omega) (nx := 1) rfl ?_
            refine qW.blk rfl ?_
            refine qv_iload rfl ?_
            refine qv_iconst (v := 10) rfl ?_
            refine qv_idivN (q := 10) rfl rfl (by omega) (by omega) (by omega) ?_
            refine qv_iconst (v := 1) rfl ?_
            refine qv_iconst (v := 9) rfl ?_
            refine qv_staticE sg_Desk_within rfl (r_Desk_within hP (by omega) (nI (j / 10)) (nI 1) (nI 9) _) ?_
            refine qv_if_eq_t (bI_f (hvo)) (tgt := 3) rfl ?_
            refine qW.blk rfl ?_
            refine qv_iconst (v := (-1)) rfl ?_
            refine qv_iret (rfl) ?_
            exact fin
        exact b0
    · intro s Q hJ hk
      have fin := hk (uF s 163 0 0) hJ.thr ((qfr.rf s).uF (by omega))
      refine qP.of (L := [_, _, _, _, _]) (by omega) (hP _ rfl) ms_Model_member rfl ?_
      show qW X PR (d - 1) (some .int) cd_Model_member 0 _ _ _ _
      by_cases ha : ∃ k, k ≤ 5 ∧ a = nI k
      · by_cases ht : t < 0
        · refine qW.blk rfl ?_
          refine qv_aload rfl ?_
          refine qv_iconst (v := 0) rfl ?_
          refine qv_pi ly_163 ⟨rfl, rfl, rfl⟩ (rfl) ?_
          refine qv_iload rfl ?_
          refine qv_iconst (v := 0) rfl ?_
          refine qv_iconst (v := 5) rfl ?_
          refine qv_staticE sg_Model_in rfl (r_Model_in hP (by omega) a 0 (nI 5) _) ?_
          refine qv_if_eq_f (bI_ne.mpr ((in_nI (n := 5) (by omega)).mpr ha)) (nx := 1) rfl ?_
          refine qW.blk rfl ?_
          refine qv_iload rfl ?_
          refine qv_if_lt_t (ht) (tgt := 4) rfl ?_
          refine qW.blk rfl ?_
          refine qv_iconst (v := (-1)) rfl ?_
          refine qv_iret (rfl) ?_
          exact fin
        · obtain ⟨k, hk5, rfl⟩ := ha
          obtain ⟨j, j1, rfl⟩ := nI_of ht
          have hki : nI 0 ≤ nI k ∧ nI k ≤ nI 5 := (w_iff (by omega) (by omega) (by omega)).mpr ⟨by omega, hk5⟩
          have b0 : qW X PR (d - 1) (some .int) cd_Model_member 0 [some (.ref (163)), some (.int (nI k)), some (.int (nI j)), none, none] [] s Q := by
            by_cases hvo : nI 1 ≤ nI (j / 10) ∧ nI (j / 10) ≤ nI 9
            · have hv := (w_iff (lo := 1) (hi := 9) (by omega) (by omega) (by omega)).mp hvo
              have hfit : ¬ (0 ≤ nI (j % 10) ∧ nI (j % 10) ≤ nI (mostN k)) := fun z => by
                obtain ⟨n, z3, z4⟩ := (in_nI (by have := mostN_le (k := k); omega)).mp z
                have e2 := (nI_eq (a := j % 10) (b := n) (by omega) (by have := mostN_le (k := k); omega)).mp z4
                exact h0 ⟨k, hk5, rfl, j, j1, rfl, hv.1, hv.2, by rw [e2]; exact z3⟩
              refine qW.blk rfl ?_
              refine qv_aload rfl ?_
              refine qv_iconst (v := 0) rfl ?_
              refine qv_pi ly_163 ⟨rfl, rfl, rfl⟩ (rfl) ?_
              refine qv_iload rfl ?_
              refine qv_iconst (v := 0) rfl ?_
              refine qv_iconst (v := 5) rfl ?_
              refine qv_staticE sg_Model_in rfl (r_Model_in hP (by omega) (nI k) (nI 0) (nI 5) _) ?_
              refine qv_if_eq_f (bI_ne.mpr (hki)) (nx := 1) rfl ?_
              refine qW.blk rfl ?_
              refine qv_iload rfl ?_
              refine qv_if_ltNf rfl (by omega) (by omega) (nx := 2) rfl ?_
              refine qW.blk rfl ?_
              refine qv_iload rfl ?_
              refine qv_iconst (v := 10) rfl ?_
              refine qv_idivN (q := 10) rfl rfl (by omega) (by omega) (by omega) ?_
              refine qv_iconst (v := 1) rfl ?_
              refine qv_iconst (v := 9) rfl ?_
              refine qv_staticE sg_Model_in rfl (r_Model_in hP (by omega) (nI (j / 10)) (nI 1) (nI 9) _) ?_
              refine qv_if_eq_f (bI_ne.mpr (hvo)) (nx := 3) rfl ?_
              refine qW.blk rfl ?_
              refine qv_iload rfl ?_
              refine qv_iload rfl ?_
              refine qv_iconst (v := 10) rfl ?_
              refine qv_iremN (q := 10) rfl rfl (by omega) (by omega) (by omega) ?_
              refine qv_static sg_Model_isNumber rfl (w_M_isNumber hP (by omega) hk5 (nI (j % 10)) ?_) 
              refine qv_if_ne_f (fun zq => zq (bI_f (hfit))) (nx := 4) rfl ?_
              refine qW.blk rfl ?_
              refine qv_iconst (v := (-1)) rfl ?_
              refine qv_iret (rfl) ?_
              exact fin
            · refine qW.blk rfl ?_
              refine qv_aload rfl ?_
              refine qv_iconst (v := 0) rfl ?_
              refine qv_pi ly_163 ⟨rfl, rfl, rfl⟩ (rfl) ?_
              refine qv_iload rfl ?_
              refine qv_iconst (v := 0) rfl ?_
              refine qv_iconst (v := 5) rfl ?_
              refine qv_staticE sg_Model_in rfl (r_Model_in hP (by omega) (nI k) (nI 0) (nI 5) _) ?_
              refine qv_if_eq_f (bI_ne.mpr (hki)) (nx := 1) rfl ?_
              refine qW.blk rfl ?_
              refine qv_iload rfl ?_
              refine qv_if_ltNf rfl (by omega) (by omega) (nx := 2) rfl ?_
              refine qW.blk rfl ?_
              refine qv_iload rfl ?_
              refine qv_iconst (v := 10) rfl ?_
              refine qv_idivN (q := 10) rfl rfl (by omega) (by omega) (by omega) ?_
              refine qv_iconst (v := 1) rfl ?_
              refine qv_iconst (v := 9) rfl ?_
              refine qv_staticE sg_Model_in rfl (r_Model_in hP (by omega) (nI (j / 10)) (nI 1) (nI 9) _) ?_
              refine qv_if_eq_t (bI_f (hvo)) (tgt := 4) rfl ?_
              refine qW.blk rfl ?_
              refine qv_iconst (v := (-1)) rfl ?_
              refine qv_iret (rfl) ?_
              exact fin
          exact b0
      · refine qW.blk rfl ?_
        refine qv_aload rfl ?_
        refine qv_iconst (v := 0) rfl ?_
        refine qv_pi ly_163 ⟨rfl, rfl, rfl⟩ (rfl) ?_
        refine qv_iload rfl ?_
        refine qv_iconst (v := 0) rfl ?_
        refine qv_iconst (v := 5) rfl ?_
        refine qv_staticE sg_Model_in rfl (r_Model_in hP (by omega) a 0 (nI 5) _) ?_
        refine qv_if_eq_t (bI_f (fun z => ha ((in_nI (n := 5) (by omega)).mp z))) (tgt := 4) rfl ?_
        refine qW.blk rfl ?_
        refine qv_iconst (v := (-1)) rfl ?_
        refine qv_iret (rfl) ?_
        exact fin
end
