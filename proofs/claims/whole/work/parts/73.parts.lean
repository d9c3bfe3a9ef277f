/-! parts is alike -/
section
variable {X : pm_X} {PR : pm_P} {s : QST} {Q : QPost}
theorem w_rememberWinners (hP : pm_np PR) {d : Nat} (hd : 1 ≤ d) {R : List va_E} {T K : Nat} {w sc pr : Nat → Int32} {tq ts ta : Int32} (hT : qTR R T K w sc pr tq ts ta) (hR : qR s = R) (hK : K ≤ 60) (hk : Q none (uA s 83 (va_cpy (qE s 78) (qE s 83) 0 0 K))) : qP X PR d 27 [.ref 74, .ref T] s Q := by
  refine qP.of (L := [_, _]) (by omega) (hP _ rfl) ms_Hall_rememberWinners rfl ?_
  show qW X PR (d - 1) (none) cd_Hall_rememberWinners 0 _ _ _ _
  refine qW.blk rfl ?_
  refine qv_aload rfl ?_
  refine qv_gr ly_74 ⟨rfl, rfl, rfl⟩ (by omega) ?_
  refine qv_iconst (v := 0) rfl ?_
  refine qv_aload rfl ?_
  refine qv_gr ly_74 ⟨rfl, rfl, rfl⟩ (by omega) ?_
  refine qv_iconst (v := 0) rfl ?_
  refine qv_aload rfl ?_
  refine qv_gh (hT.o hR) rfl rfl ?_
  refine qv_copy (p := 0) (q := 0) ly_78 ly_83 rfl rfl rfl (⟨by omega, by omega, by decide, by decide⟩) (Nat.le_of_ble_eq_true rfl) ?_
  refine qv_ret rfl ?_
  exact hk
theorem w_firstOther_n (hP : pm_np PR) {d : Nat} (hd : 1 ≤ d) {R : List va_E} {T K : Nat} {w sc pr : Nat → Int32} {tq ts ta : Int32} (hT : qTR R T K w sc pr tq ts ta) (hR : qR s = R) (hK : K ≤ 60) {t : TR} (ht : ctr t K w sc pr) (m : Nat) (hm : m ≤ K) (hall : ∀ j, j < m → (t j).1 = 1 → qE s 78 j = qE s 83 j) (hlast : (m = K ∧ Q (some (.int (-4))) s) ∨ (m < K ∧ (t m).1 = 1 ∧ ¬ qE s 78 m = qE s 83 m ∧ Q (some (.int (nI m))) s)) : qP X PR d 28 [.ref 74, .ref T] s Q := by
  refine qP.of (L := [_, _, _]) (by omega) (hP _ rfl) ms_Hall_firstOtherWinner rfl ?_
  show qW X PR (d - 1) (some .int) cd_Hall_firstOtherWinner 0 _ _ _ _
  have loop : ∀ (k j : Nat), j + k = m → qW X PR (d - 1) (some .int) cd_Hall_firstOtherWinner 1 [some (.ref (74)), some (.ref (T)), some (.int (nI j))] [] s Q := by
    intro k
    induction k with
    | zero =>
      intro j hj
      have e : j = m := by omega
      subst e
      rcases hlast with ⟨h1, h2⟩ | ⟨h1, h2, h3, h4⟩
      · subst h1
        refine qW.blk rfl ?_
        refine qv_iload rfl ?_
        refine qv_aload rfl ?_
        refine qv_gh (hT.o hR) rfl rfl ?_
        refine qv_icmp_geNt rfl rfl (by omega) (by omega) (by omega) (tgt := 6) rfl ?_
        refine qW.blk rfl ?_
        refine qv_iconst (v := (-4)) rfl ?_
        refine qv_iret (rfl) ?_
        exact h2
      · refine qW.blk rfl ?_
        refine qv_iload rfl ?_
        refine qv_aload rfl ?_
        refine qv_gh (hT.o hR) rfl rfl ?_
        refine qv_icmp_geNf rfl rfl (by omega) (by omega) (by omega) (nx := 2) rfl ?_
        refine qW.blk rfl ?_
        refine qv_aload rfl ?_
        refine qv_gh (hT.o hR) rfl rfl ?_
        refine qv_iload rfl ?_
        refine qv_iah (hT.a1 hR) rfl (by omega) (by omega) ((ht j h1).2.2.1 h2) ?_
        refine qv_iconst (v := 7) rfl ?_
        refine qv_icmp_ne_f (fun z => z rfl) (nx := 3) rfl ?_
        refine qW.blk rfl ?_
        refine qv_aload rfl ?_
        refine qv_gr ly_74 ⟨rfl, rfl, rfl⟩ (by omega) ?_
        refine qv_iload rfl ?_
        refine qv_ia ly_78 rfl (by omega) (by decide) rfl ?_
        refine qv_aload rfl ?_
        refine qv_gr ly_74 ⟨rfl, rfl, rfl⟩ (by omega) ?_
        refine qv_iload rfl ?_
        refine qv_ia ly_83 rfl (by omega) (by decide) rfl ?_
        refine qv_icmp_eq_f (h3) (nx := 4) rfl ?_
        refine qW.blk rfl ?_
        refine qv_iload rfl ?_
        refine qv_iret (rfl) ?_
        exact h4
    | succ k ih =>
      intro j hj
      obtain ⟨t1, t2, t3, t4, t5⟩ := ht j (by omega)
      by_cases hq : (t j).1 = 1
      · refine qW.blk rfl ?_
        refine qv_iload rfl ?_
        refine qv_aload rfl ?_
        refine qv_gh (hT.o hR) rfl rfl ?_
        refine qv_icmp_geNf rfl rfl (by omega) (by omega) (by omega) (nx := 2) rfl ?_
        refine qW.blk rfl ?_
        refine qv_aload rfl ?_
        refine qv_gh (hT.o hR) rfl rfl ?_
        refine qv_iload rfl ?_
        refine qv_iah (hT.a1 hR) rfl (by omega) (by omega) (t3 hq) ?_
        refine qv_iconst (v := 7) rfl ?_
        refine qv_icmp_ne_f (fun z => z rfl) (nx := 3) rfl ?_
        refine qW.blk rfl ?_
        refine qv_aload rfl ?_
        refine qv_gr ly_74 ⟨rfl, rfl, rfl⟩ (by omega) ?_
        refine qv_iload rfl ?_
        refine qv_ia ly_78 rfl (by omega) (by decide) rfl ?_
        refine qv_aload rfl ?_
        refine qv_gr ly_74 ⟨rfl, rfl, rfl⟩ (by omega) ?_
        refine qv_iload rfl ?_
        refine qv_ia ly_83 rfl (by omega) (by decide) rfl ?_
        refine qv_icmp_eq_t (hall j (by omega) hq) (tgt := 5) rfl ?_
        refine qW.blk rfl ?_
        refine qv_iinc (L' := [_, _, _]) rfl (nI_succ _).symm rfl ?_
        refine qv_goto (tgt := 1) rfl ?_
        exact ih (j + 1) (by omega)
      · have hw : ¬ w j = 7 := by
          rcases (show (t j).1 = 0 ∨ (t j).1 = 2 by omega) with h0 | h0
          · obtain ⟨g1, g2⟩ := t2 h0
            rw [g2]
            exact fun z => by have := (nI_eq (a := (t j).2.2.2.1) (b := 7) (by omega) (by omega)).mp z; omega
          · rw [(t4 h0).1]; decide
        refine qW.blk rfl ?_
        refine qv_iload rfl ?_
        refine qv_aload rfl ?_
        refine qv_gh (hT.o hR) rfl rfl ?_
        refine qv_icmp_geNf rfl rfl (by omega) (by omega) (by omega) (nx := 2) rfl ?_
        refine qW.blk rfl ?_
        refine qv_aload rfl ?_
        refine qv_gh (hT.o hR) rfl rfl ?_
        refine qv_iload rfl ?_
        refine qv_iah (hT.a1 hR) rfl (by omega) (by omega) (rfl) ?_
        refine qv_iconst (v := 7) rfl ?_
        refine qv_icmp_ne_t (hw) (tgt := 5) rfl ?_
        refine qW.blk rfl ?_
        refine qv_iinc (L' := [_, _, _]) rfl (nI_succ _).symm rfl ?_
        refine qv_goto (tgt := 1) rfl ?_
        exact ih (j + 1) (by omega)
  refine qW.blk rfl ?_
  refine qv_iconst (v := 0) rfl ?_
  refine qv_istore (L' := [_, _, _]) rfl ?_
  refine qv_nil (nx := 1) rfl ?_
  exact loop m 0 (by omega)
theorem w_questionsAhead (hP : pm_np PR) {d : Nat} (hd : 1 ≤ d) {R : List va_E} {T K : Nat} {w sc pr : Nat → Int32} {tq ts ta : Int32} (hT : qTR R T K w sc pr tq ts ta) (hR : qR s = R) (hK : K ≤ 60) {t : TR} (ht : ctr t K w sc pr) {m : Nat} (hm : m ≤ K) (hk : Q (some (.int (nI (qah t m)))) s) : qP X PR d 105 [.ref T, .int (nI m)] s Q := by
  refine qP.of (L := [_, _, _, _]) (by omega) (hP _ rfl) ms_Tree_questionsAhead rfl ?_
  show qW X PR (d - 1) (some .int) cd_Tree_questionsAhead 0 _ _ _ _
  have loop : ∀ (k j : Nat), j + k = m → qW X PR (d - 1) (some .int) cd_Tree_questionsAhead 1 [some (.ref (T)), some (.int (nI m)), some (.int (nI (qah t j))), some (.int (nI j))] [] s Q := by
    intro k
    induction k with
    | zero =>
      intro j hj
      have e : j = m := by omega
      subst e
      refine qW.blk rfl ?_
      refine qv_iload rfl ?_
      refine qv_iload rfl ?_
      refine qv_icmp_geNt rfl rfl (by omega) (by omega) (by omega) (tgt := 5) rfl ?_
      refine qW.blk rfl ?_
      refine qv_iload rfl ?_
      refine qv_iret (rfl) ?_
      exact hk
    | succ k ih =>
      intro j hj
      obtain ⟨t1, t2, t3, t4, t5⟩ := ht j (by omega)
      have st : qah t (j + 1) = qah t j + (if (t j).1 = 1 then 1 else 0) := rfl
      have nx := ih (j + 1) (by omega)
      by_cases hq : (t j).1 = 1
      · rw [if_pos hq] at st
        rw [st] at nx
        refine qW.blk rfl ?_
        refine qv_iload rfl ?_
        refine qv_iload rfl ?_
        refine qv_icmp_geNf rfl rfl (by omega) (by omega) (by omega) (nx := 2) rfl ?_
        refine qW.blk rfl ?_
        refine qv_aload rfl ?_
        refine qv_gh (hT.o hR) rfl rfl ?_
        refine qv_iload rfl ?_
        refine qv_iah (hT.a1 hR) rfl (by omega) (by omega) (t3 hq) ?_
        refine qv_iconst (v := 7) rfl ?_
        refine qv_icmp_ne_f (fun z => z rfl) (nx := 3) rfl ?_
        refine qW.blk rfl ?_
        refine qv_iinc (L' := [_, _, _, _]) rfl (nI_succ _).symm rfl ?_
        refine qv_nil (nx := 4) rfl ?_
        refine qW.blk rfl ?_
        refine qv_iinc (L' := [_, _, _, _]) rfl (nI_succ _).symm rfl ?_
        refine qv_goto (tgt := 1) rfl ?_
        exact nx
      · rw [if_neg hq, Nat.add_zero] at st
        rw [st] at nx
        have hw : ¬ w j = 7 := by
          rcases (show (t j).1 = 0 ∨ (t j).1 = 2 by omega) with h0 | h0
          · obtain ⟨g1, g2⟩ := t2 h0
            rw [g2]
            exact fun z => by have := (nI_eq (a := (t j).2.2.2.1) (b := 7) (by omega) (by omega)).mp z; omega
          · rw [(t4 h0).1]; decide
        refine qW.blk rfl ?_
        refine qv_iload rfl ?_
        refine qv_iload rfl ?_
        refine qv_icmp_geNf rfl rfl (by omega) (by omega) (by omega) (nx := 2) rfl ?_
        refine qW.blk rfl ?_
        refine qv_aload rfl ?_
        refine qv_gh (hT.o hR) rfl rfl ?_
        refine qv_iload rfl ?_
        refine qv_iah (hT.a1 hR) rfl (by omega) (by omega) (rfl) ?_
        refine qv_iconst (v := 7) rfl ?_
        refine qv_icmp_ne_t (hw) (tgt := 4) rfl ?_
        refine qW.blk rfl ?_
        refine qv_iinc (L' := [_, _, _, _]) rfl (nI_succ _).symm rfl ?_
        refine qv_goto (tgt := 1) rfl ?_
        exact nx
  refine qW.blk rfl ?_
  refine qv_iconst (v := 0) rfl ?_
  refine qv_istore (L' := [_, _, _, _]) rfl ?_
  refine qv_iconst (v := 0) rfl ?_
  refine qv_istore (L' := [_, _, _, _]) rfl ?_
  refine qv_nil (nx := 1) rfl ?_
  exact loop m 0 (by omega)
theorem Sim_parts (hP : pm_np PR) (t : Int32) : Sim X PR 132 216 [.int t] := by
  intro d A hd hA
  have hC := hA.1
  have h12 := hC.2.2.2.2.1
  rcases pl_of t (aC A 3) with ⟨k, hk3, rfl⟩ | hn
  · have hD := hA.2.2.2.1 k hk3
    have hK := hD.2.1
    have hQ := hD.2.2.2.2.2.1
    have hQb := qah_bd (t := (aT A k).1) (aT A k).2.2.2.1
    obtain ⟨P0, hP0⟩ : ∃ P0 : Nat → Int32, ∀ n, (gval (wAll (cvw (aC A)) 0) (aT A k).2.1 ((aT A k).2.2.1 n)).2.2.2.2.2 = P0 n := ⟨_, fun _ => rfl⟩
    obtain ⟨P1, hP1⟩ : ∃ P1 : Nat → Int32, ∀ n, (gval (wAll (cvw (aC A)) 1) (aT A k).2.1 ((aT A k).2.2.1 n)).2.2.2.2.2 = P1 n := ⟨_, fun _ => rfl⟩
    -- the first that differs
    obtain ⟨m, hmK, hall, hlast⟩ : ∃ m, m ≤ (aT A k).2.2.2.1 ∧ (∀ j, j < m → ((aT A k).1 j).1 = 1 → P0 j = P1 j) ∧ (m = (aT A k).2.2.2.1 ∨ (m < (aT A k).2.2.2.1 ∧ ((aT A k).1 m).1 = 1 ∧ ¬ P0 m = P1 m)) := by
      by_cases h : ∃ j, j < (aT A k).2.2.2.1 ∧ ((aT A k).1 j).1 = 1 ∧ ¬ P0 j = P1 j
      · obtain ⟨m, h1, h2⟩ := pk_least _ h
        exact ⟨m, by omega, fun j hj hq => Classical.byContradiction fun z => h2 j hj ⟨by omega, hq, z⟩, Or.inr h1⟩
      · exact ⟨_, Nat.le_refl _, fun j hj hq => Classical.byContradiction fun z => h ⟨j, hj, hq, z⟩, Or.inl rfl⟩
    obtain ⟨r, hr⟩ : ∃ r : Int32, (if m = (aT A k).2.2.2.1 then -4 else nI (qah (aT A k).1 m)) = r := ⟨_, rfl⟩
    refine ⟨.int r, A, hA, ?_, ?_⟩
    · intro s Q hJ hk
      obtain ⟨T, hT1, w', sc, pr, hT3, hT4⟩ := hJ.2.2.2.1 k hk3
      have hT2 : cTD (qR s) T (aT A k) := ⟨w', sc, pr, hT3, hT4⟩
      refine qP.of (L := [_, _, _, _]) (by omega) (hP _ rfl) ms_Desk_parts rfl ?_
      show qW X PR (d - 1) (some .int) cd_Desk_parts 0 _ _ _ _
      refine qW.blk rfl ?_
      refine qv_aload rfl ?_
      refine qv_gr ly_8 ⟨rfl, rfl, rfl⟩ (by omega) ?_
      refine qv_iload rfl ?_
      refine qv_virtE (ly_9.rcv _) sg_Chamber_treeAt rfl rfl (r_treeAt_y hP (by omega) hJ.1.2.2.2.1 h12 hk3 hT1) ?_
      refine qv_astore (L' := [_, _, _, _]) rfl ?_
      refine qv_aload rfl ?_
      refine qv_nonnull_t (tgt := 2) rfl ?_
      refine qW.blk rfl ?_
      refine qv_aload rfl ?_
      refine qv_aload rfl ?_
      refine qv_iconst (v := 0) rfl ?_
      refine qv_virt (ly_8.rcv _) sg_Desk_comesIfAll rfl rfl (w_comesIfAllX hP (by omega) hJ.1 hC hD hT2 (k := 0) (by omega) (fun s1 p1 F1 h1 _ => ?_))
      have R1 : qR s1 = qR s := F1.R
      refine qv_pop rfl ?_
      refine qv_aload rfl ?_
      refine qv_gr ly_8 ⟨rfl, rfl, rfl⟩ (by omega) ?_
      refine qv_aload rfl ?_
      refine qv_virt (ly_74.rcv _) sg_Hall_rememberWinners rfl rfl (w_rememberWinners hP (by omega) hT3 R1 hK ?_)
      have F2 : qfr 74 110 s (uA s1 83 (va_cpy (qE s1 78) (qE s1 83) 0 0 (aT A k).2.2.2.1)) := F1.uA (by omega)
      refine qv_aload rfl ?_
      refine qv_aload rfl ?_
      refine qv_iconst (v := 1) rfl ?_
      refine qv_virt (ly_8.rcv _) sg_Desk_comesIfAll rfl rfl (w_comesIfAllX hP (by omega) (hJ.fr hA F2 (by omega)).1 hC hD (by rw [F2.R]; exact hT2) (k := 1) (by omega) (fun s3 p3 F3 h3 e83 => ?_))
      have F := F2.trans F3
      have R3 : qR s3 = qR s := F.R
      have fin := hk s3 (hJ.fr hA F (by omega)) (F.c (by omega) (by omega))
      have w1 : ∀ j, j < (aT A k).2.2.2.1 → ((aT A k).1 j).1 = 1 → qE s3 78 j = P1 j := fun j hj hq => by rw [((h3 j hj).2 hq).2, hP1]
      have w0 : ∀ j, j < (aT A k).2.2.2.1 → ((aT A k).1 j).1 = 1 → qE s3 83 j = P0 j := fun j hj hq => by
        rw [e83, qE_uAs, sb_cpy0 hj, ((h1 j hj).2 hq).2, hP0]
      refine qv_pop rfl ?_
      refine qv_aload rfl ?_
      refine qv_gr ly_8 ⟨rfl, rfl, rfl⟩ (by omega) ?_
      refine qv_aload rfl ?_
      refine qv_virt (ly_74.rcv _) sg_Hall_firstOtherWinner rfl rfl (w_firstOther_n hP (by omega) hT3 R3 hK hT4 m hmK (fun j hj hq => by rw [w1 j (by omega) hq, w0 j (by omega) hq, hall j hj hq]) ?_)
      rcases hlast with e | ⟨e1, e2, e3⟩
      · refine Or.inl ⟨e, ?_⟩
        rw [if_pos e] at hr
        refine qv_istore (L' := [_, _, _, _]) rfl ?_
        refine qv_iload rfl ?_
        refine qv_iconst (v := (-4)) rfl ?_
        refine qv_icmp_ne_f (fun z => z rfl) (nx := 3) rfl ?_
        refine qW.blk rfl ?_
        refine qv_iconst (v := (-4)) rfl ?_
        refine qv_goto (tgt := 5) rfl ?_
        refine qW.blk rfl ?_
        refine qv_iret rfl ?_
        rw [hr]
        exact fin
      · refine Or.inr ⟨e1, e2, fun z => e3 (by rw [← w0 m e1 e2, ← w1 m e1 e2, z]), ?_⟩
        rw [if_neg (by omega)] at hr
        have hne : ¬ nI m = -4 := fun z => by
          have := congrArg Int32.toInt z
          rw [nI_toInt (by omega)] at this
          have e4 : (-4 : Int32).toInt = -4 := by decide
          omega
        refine qv_istore (L' := [_, _, _, _]) rfl ?_
        refine qv_iload rfl ?_
        refine qv_iconst (v := (-4)) rfl ?_
        refine qv_icmp_ne_t hne (tgt := 4) rfl ?_
        refine qW.blk rfl ?_
        refine qv_aload rfl ?_
        refine qv_iload rfl ?_
        refine qv_virt (hT3.rcv R3) sg_Tree_questionsAhead rfl rfl (w_questionsAhead hP (by omega) hT3 R3 hK hT4 (by omega) ?_)
        refine qv_nil (nx := 5) rfl ?_
        refine qW.blk rfl ?_
        refine qv_iret rfl ?_
        rw [hr]
        exact fin
    · intro s Q hJ hk
      have J1 := hJ.thr (v := 0)
      have F0 := (kfr.rf 28 (uF s 163 0 0)).sF (k := 28) (v := nI 0) (by omega)
      have K0 := J1.k F0
      refine qP.of (L := [_, _, _, _]) (by omega) (hP _ rfl) ms_Model_parts rfl ?_
      show qW X PR (d - 1) (some .int) cd_Model_parts 0 _ _ _ _
      have last : ∀ (s3 : QST), rfr (uF s 163 0 0) s3 → qF s3 163 15 = nI (aT A k).2.2.2.1 → tr_at (fun k => qE s3 (164 + k)) (aT A k).2.1 (aT A k).2.2.2.1 → (∀ j, j < (aT A k).2.2.2.1 → ((aT A k).1 j).1 = 1 → qE s3 190 ((aT A k).2.2.1 j) = P0 j ∧ qE s3 189 ((aT A k).2.2.1 j) = P1 j) → ∀ (c q : Nat) (L3 : Option Value), q + c = qah (aT A k).1 m → qW X PR (d - 1) (some .int) cd_Model_parts 6 [some (.ref (163)), some (.int (nI k)), some (.int (nI q)), L3] [] s3 Q := by
        intro s3 F3 g1 g2 g3 c
        have J3 := J1.fr F3
        have hQs := (J3.2.2.2.1 k hk3).2
        have fin := hk s3 J3 (((qfr.rf s).uF (by omega)).trans F3.1)
        have hmb := qah_bd (t := (aT A k).1) m
        have hml := qah_le (t := (aT A k).1) (n := m) (aT A k).2.2.2.1 hmK
        induction c with
        | zero =>
          intro q L3 hq
          have e : q = qah (aT A k).1 m := by omega
          subst e
          rcases hlast with e | ⟨e1, e2, e3⟩
          · rw [if_pos e] at hr
            have e' : qah (aT A k).1 m = (aT A k).2.2.2.2.1 := by rw [e, hQ]
            rw [e']
            have b6 : qW X PR (d - 1) (some .int) cd_Model_parts 6 [some (.ref (163)), some (.int (nI k)), some (.int (nI (aT A k).2.2.2.2.1)), L3] [] s3 Q := by
              refine qW.blk rfl ?_
              refine qv_iload rfl ?_
              refine qv_aload rfl ?_
              refine qv_gr ly_163 ⟨rfl, rfl, rfl⟩ (by omega) ?_
              refine qv_iload rfl ?_
              refine qv_ia ly_167 rfl (by omega) (by decide) (hQs) ?_
              refine qv_icmp_geNt rfl rfl (by omega) (by omega) (by omega) (tgt := 10) rfl ?_
              refine qW.blk rfl ?_
              refine qv_iconst (v := (-4)) rfl ?_
              refine qv_iret (rfl) ?_
              rw [hr]
              exact fin
            exact b6
          · rw [if_neg (by omega)] at hr
            have hlt := qah_lt (t := (aT A k).1) e1 e2
            obtain ⟨x1, x2⟩ := g3 m e1 e2
            have hpm := hD.2.2.2.2.1.2.1 m e1
            refine qW.blk rfl ?_
            refine qv_iload rfl ?_
            refine qv_aload rfl ?_
            refine qv_gr ly_163 ⟨rfl, rfl, rfl⟩ (by omega) ?_
            refine qv_iload rfl ?_
            refine qv_ia ly_167 rfl (by omega) (by decide) (hQs) ?_
            refine qv_icmp_geNf rfl rfl (by omega) (by omega) (by omega) (nx := 7) rfl ?_
            refine qW.blk rfl ?_
            refine qv_aload rfl ?_
            refine qv_iload rfl ?_
            refine qv_virt (ly_163.rcv _) sg_Model_nodeOf rfl rfl (w_M_nodeOf hP (by omega) hD g1 g2 e1 e2 ?_) 
            refine qv_istore (L' := [_, _, _, _]) rfl ?_
            refine qv_aload rfl ?_
            refine qv_gr ly_163 ⟨rfl, rfl, rfl⟩ (by omega) ?_
            refine qv_iload rfl ?_
            refine qv_ia ly_190 rfl (by omega) (by decide) (x1) ?_
            refine qv_aload rfl ?_
            refine qv_gr ly_163 ⟨rfl, rfl, rfl⟩ (by omega) ?_
            refine qv_iload rfl ?_
            refine qv_ia ly_189 rfl (by omega) (by decide) (x2) ?_
            refine qv_icmp_eq_f (e3) (nx := 8) rfl ?_
            refine qW.blk rfl ?_
            refine qv_iload rfl ?_
            refine qv_iret (rfl) ?_
            rw [hr]
            exact fin
        | succ c ih =>
          intro q L3 hq
          obtain ⟨n, n1, n2, n3⟩ := qah_find (t := (aT A k).1) (aT A k).2.2.2.1 q (by omega)
          subst n3
          have hnm : n < m := by
            rcases Nat.lt_or_ge n m with h | h
            · exact h
            · have := qah_le (t := (aT A k).1) (n := m) n h; omega
          obtain ⟨x1, x2⟩ := g3 n n1 n2
          have hpn := hD.2.2.2.2.1.2.1 n n1
          have b6 : qW X PR (d - 1) (some .int) cd_Model_parts 6 [some (.ref (163)), some (.int (nI k)), some (.int (nI (qah (aT A k).1 n))), L3] [] s3 Q := by
            refine qW.blk rfl ?_
            refine qv_iload rfl ?_
            refine qv_aload rfl ?_
            refine qv_gr ly_163 ⟨rfl, rfl, rfl⟩ (by omega) ?_
            refine qv_iload rfl ?_
            refine qv_ia ly_167 rfl (by omega) (by decide) (hQs) ?_
            refine qv_icmp_geNf rfl rfl (by omega) (by omega) (by omega) (nx := 7) rfl ?_
            refine qW.blk rfl ?_
            refine qv_aload rfl ?_
            refine qv_iload rfl ?_
            refine qv_virt (ly_163.rcv _) sg_Model_nodeOf rfl rfl (w_M_nodeOf hP (by omega) hD g1 g2 n1 n2 ?_) 
            refine qv_istore (L' := [_, _, _, _]) rfl ?_
            refine qv_aload rfl ?_
            refine qv_gr ly_163 ⟨rfl, rfl, rfl⟩ (by omega) ?_
            refine qv_iload rfl ?_
            refine qv_ia ly_190 rfl (by omega) (by decide) (x1) ?_
            refine qv_aload rfl ?_
            refine qv_gr ly_163 ⟨rfl, rfl, rfl⟩ (by omega) ?_
            refine qv_iload rfl ?_
            refine qv_ia ly_189 rfl (by omega) (by decide) (x2) ?_
            refine qv_icmp_eq_t (hall n hnm n2) (tgt := 9) rfl ?_
            refine qW.blk rfl ?_
            refine qv_iinc (L' := [_, _, _, _]) rfl (nI_succ _).symm rfl ?_
            refine qv_goto (tgt := 6) rfl ?_
            exact ih (qah (aT A k).1 n + 1) _ (by omega)
          exact b6
      have b5 : ∀ (s1 : QST) (L3 : Option Value), kfr 28 (uF s 163 0 0) s1 → (∀ j, j < (aT A k).2.2.2.1 → ((aT A k).1 j).1 = 1 → qE s1 190 ((aT A k).2.2.1 j) = P0 j) → qW X PR (d - 1) (some .int) cd_Model_parts 5 [some (.ref (163)), some (.int (nI k)), some (.int (nI (aT A k).2.2.2.1)), L3] [] s1 Q := by
        intro s1 L3 F1 h0
        have F2 := F1.sF (k := 28) (v := nI 1) (by omega)
        have K2 := J1.k F2
        refine qW.blk rfl ?_
        refine qv_aload rfl ?_
        refine qv_iconst (v := 1) rfl ?_
        refine qv_pi ly_163 ⟨rfl, rfl, rfl⟩ (rfl) ?_
        refine qv_aload rfl ?_
        refine qv_iload rfl ?_
        refine qv_virt (ly_163.rcv _) sg_Model_endOf rfl rfl (w_M_endOf hP (by omega) (rview_all K2.1 hC K2.2.2 (k := 1) (by omega) qF_uFs) (by omega) hD (K2.2.1 k hk3) (fun s3 F3 g1 g2 g3 => ?_)) 
        refine qv_pop rfl ?_
        refine qv_aload rfl ?_
        refine qv_iconst (v := (-1)) rfl ?_
        refine qv_pi ly_163 ⟨rfl, rfl, rfl⟩ (rfl) ?_
        refine qv_iconst (v := 0) rfl ?_
        refine qv_istore (L' := [_, _, _, _]) rfl ?_
        refine qv_nil (nx := 6) rfl ?_
        refine last (uF s3 163 28 (-1)) (((F2.e F3).sF (k := 28) (v := -1) (by omega)).done (by rw [qF_uFs]; exact J1.2.2.2.2.2.1.symm)) (by rw [qF_uFk (by omega)]; exact g1) g2 (fun j hj hq => ⟨?_, ?_⟩) (qah (aT A k).1 m) 0 _ (by omega)
        · show qE s3 190 _ = _
          rw [F3.2.1 190 (by omega) (by omega)]
          exact h0 j hj hq
        · have hpj := hD.2.2.2.2.1.2.1 j hj
          obtain ⟨v, v1, v2⟩ := g3 _ hpj
          show qE s3 189 _ = _
          rw [show qE s3 189 ((aT A k).2.2.1 j) = v.2.2.2.2.2 from (v2.2 ((hD.2.2.2.2.1.2.2.2 j hj).1.trans hq)).2, v1.2.2.2, hP1]
      have b3 : ∀ (c j : Nat) (s1 : QST) (L3 : Option Value), j + c = (aT A k).2.2.2.1 → kfr 28 (uF s 163 0 0) s1 → qF s1 163 15 = nI (aT A k).2.2.2.1 → (∀ j, j < (aT A k).2.2.2.1 → ((aT A k).1 j).1 = 1 → qE s1 189 ((aT A k).2.2.1 j) = P0 j) → (∀ i, i < j → qE s1 190 i = qE s1 189 i) → qW X PR (d - 1) (some .int) cd_Model_parts 3 [some (.ref (163)), some (.int (nI k)), some (.int (nI j)), L3] [] s1 Q := by
        intro c
        induction c with
        | zero =>
          intro j s1 L3 hj F1 g1 g2 g3
          have e : j = (aT A k).2.2.2.1 := by omega
          subst e
          refine qW.blk rfl ?_
          refine qv_iload rfl ?_
          refine qv_aload rfl ?_
          refine qv_gi ly_163 ⟨rfl, rfl, rfl⟩ (g1) ?_
          refine qv_icmp_geNt rfl rfl (by omega) (by omega) (by omega) (tgt := 5) rfl ?_
          exact b5 s1 L3 F1 (fun j hj hq => by rw [g3 _ (hD.2.2.2.2.1.2.1 j hj)]; exact g2 j hj hq)
        | succ c ih =>
          intro j s1 L3 hj F1 g1 g2 g3
          refine qW.blk rfl ?_
          refine qv_iload rfl ?_
          refine qv_aload rfl ?_
          refine qv_gi ly_163 ⟨rfl, rfl, rfl⟩ (g1) ?_
          refine qv_icmp_geNf rfl rfl (by omega) (by omega) (by omega) (nx := 4) rfl ?_
          refine qW.blk rfl ?_
          refine qv_aload rfl ?_
          refine qv_gr ly_163 ⟨rfl, rfl, rfl⟩ (by omega) ?_
          refine qv_iload rfl ?_
          refine qv_aload rfl ?_
          refine qv_gr ly_163 ⟨rfl, rfl, rfl⟩ (by omega) ?_
          refine qv_iload rfl ?_
          refine qv_ia ly_189 rfl (by omega) (by decide) rfl ?_
          refine qv_is ly_190 rfl (by omega) (by decide) ?_
          refine qv_iinc (L' := [_, _, _, _]) rfl (nI_succ _).symm rfl ?_
          refine qv_goto (tgt := 3) rfl ?_
          refine ih (j + 1) _ _ (by omega) (F1.sE (by omega)) g1 (fun j hj hq => by rw [qE_uEc (by omega)]; exact g2 j hj hq) (fun i hi => ?_)
          rw [qE_uEc (c := 190) (c' := 189) (by omega)]
          by_cases e : i = j
          · subst e; rw [qE_uEs]
          · rw [qE_uEk e]; exact g3 i (by omega)
      refine qW.blk rfl ?_
      refine qv_aload rfl ?_
      refine qv_iconst (v := 0) rfl ?_
      refine qv_pi ly_163 ⟨rfl, rfl, rfl⟩ (rfl) ?_
      refine qv_aload rfl ?_
      refine qv_iload rfl ?_
      refine qv_virtE (ly_163.rcv _) sg_Model_isTree rfl rfl (r_M_isTree hP (by omega) (nI k) (J1.1 3 (by decide))) ?_
      refine qv_if_ne_t (bI_ne.mpr ((in_nI1 (by omega)).mpr ⟨k, hk3, rfl⟩)) (tgt := 2) rfl ?_
      refine qW.blk rfl ?_
      refine qv_aload rfl ?_
      refine qv_iconst (v := 0) rfl ?_
      refine qv_pi ly_163 ⟨rfl, rfl, rfl⟩ (rfl) ?_
      refine qv_aload rfl ?_
      refine qv_iload rfl ?_
      refine qv_virt (ly_163.rcv _) sg_Model_endOf rfl rfl (w_M_endOf hP (by omega) (rview_all K0.1 hC K0.2.2 (k := 0) (by omega) qF_uFs) (by omega) hD (K0.2.1 k hk3) (fun s1 F1 g1 g2 g3 => ?_)) 
      refine qv_pop rfl ?_
      refine qv_iconst (v := 0) rfl ?_
      refine qv_istore (L' := [_, _, _, _]) rfl ?_
      refine qv_nil (nx := 3) rfl ?_
      refine b3 (aT A k).2.2.2.1 0 s1 _ (by omega) (F0.e F1) g1 (fun j hj hq => ?_) (fun i hi => by omega)
      have hpj := hD.2.2.2.2.1.2.1 j hj
      obtain ⟨v, v1, v2⟩ := g3 _ hpj
      rw [show qE s1 189 ((aT A k).2.2.1 j) = v.2.2.2.2.2 from (v2.2 ((hD.2.2.2.2.1.2.2.2 j hj).1.trans hq)).2, v1.2.2.2, hP0]
  · refine ⟨.int (-1), A, hA, ?_, ?_⟩
    · intro s Q hJ hk
      refine qP.of (L := [_, _, _, _]) (by omega) (hP _ rfl) ms_Desk_parts rfl ?_
      show qW X PR (d - 1) (some .int) cd_Desk_parts 0 _ _ _ _
      refine qW.blk rfl ?_
      refine qv_aload rfl ?_
      refine qv_gr ly_8 ⟨rfl, rfl, rfl⟩ (by omega) ?_
      refine qv_iload rfl ?_
      refine qv_virtE (ly_9.rcv _) sg_Chamber_treeAt rfl rfl (r_treeAt_n hP (by omega) hJ.1.2.2.2.1 h12 hn) ?_
      refine qv_astoreN (L' := [_, _, _, _]) rfl ?_
      refine qv_aloadN rfl ?_
      refine qv_nonnull_f (nx := 1) rfl ?_
      refine qW.blk rfl ?_
      refine qv_iconst (v := (-1)) rfl ?_
      refine qv_iret (rfl) ?_
      exact hk s hJ (cfr.rf s)
    · intro s Q hJ hk
      have J1 := hJ.thr (v := 0)
      refine qP.of (L := [_, _, _, _]) (by omega) (hP _ rfl) ms_Model_parts rfl ?_
      show qW X PR (d - 1) (some .int) cd_Model_parts 0 _ _ _ _
      refine qW.blk rfl ?_
      refine qv_aload rfl ?_
      refine qv_iconst (v := 0) rfl ?_
      refine qv_pi ly_163 ⟨rfl, rfl, rfl⟩ (rfl) ?_
      refine qv_aload rfl ?_
      refine qv_iload rfl ?_
      refine qv_virtE (ly_163.rcv _) sg_Model_isTree rfl rfl (r_M_isTree hP (by omega) t (J1.1 3 (by decide))) ?_
      refine qv_if_ne_f (fun zq => zq (bI_f (fun z => hn ((in_nI1 (by omega)).mp z)))) (nx := 1) rfl ?_
      refine qW.blk rfl ?_
      refine qv_iconst (v := (-1)) rfl ?_
      refine qv_iret (rfl) ?_
      exact hk (uF s 163 0 0) hJ.thr ((qfr.rf s).uF (by omega))
end
