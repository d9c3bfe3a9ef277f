/-! breach is alike -/
section
variable {X : pm_X} {PR : pm_P}
theorem Sim_breach (hP : pm_np PR) (hX2 : X 2 = some (18, pm_tbf [0, 1, 2, 0, 2, 1, 1, 0, 2, 2, 0, 1, 1, 2, 0, 2, 1, 0])) (hX3 : X 3 = some (6, pm_tbf [2, 4, 0, 5, 1, 3])) (hX4 : X 4 = some (6, pm_tbf [1, 0, 3, 2, 5, 4])) (t w m g : Int32) : Sim X PR 150 243 [.int t, .int w, .int m, .int g] := by
  intro d A hd hA
  have hC := hA.1
  have hM := hC.2.2.2.1
  have h12 := hC.2.2.2.2.1
  rcases pl_of t (aC A 3) with ⟨k, hk3, rfl⟩ | hn
  · have hD := hA.2.2.2.1 k hk3
    have hK := hD.1
    have hK6 := hD.2.1
    have it : (0 ≤ nI k ∧ nI k ≤ nI (aC A 3) - 1) := (in_nI1 (by omega)).mpr ⟨k, hk3, rfl⟩
    by_cases hw : ∃ j, j ≤ 2 ∧ w = nI j
    · obtain ⟨law, hlaw, rfl⟩ := hw
      have iw : nI 0 ≤ nI law ∧ nI law ≤ nI 2 := (w_iff (by omega) (by omega) (by omega)).mpr ⟨by omega, hlaw⟩
      by_cases hm : nI 1 ≤ m ∧ m ≤ nI 3
      · obtain ⟨z, hz1, hz, rfl⟩ : ∃ z, 1 ≤ z ∧ z ≤ 3 ∧ m = nI z := by
          have h0 : 0 ≤ m := Int32.le_trans (by decide) hm.1
          obtain ⟨j, hj, rfl⟩ := (in_nI (n := 3) (by omega)).mp ⟨h0, hm.2⟩
          exact ⟨j, (nI_leI (by omega) (by omega)).mp hm.1, hj, rfl⟩
        obtain ⟨e1, e2⟩ := E3_iff hD
        obtain ⟨-, -, -, -, -, -, hs7, ha7, -, -⟩ := hD
        have hor := Nat.or_lt_two_pow (n := 7) hs7 ha7
        have hD := hA.2.2.2.1 k hk3
        have horN := or_N (a := (aT A k).2.2.2.2.2.1) (b := (aT A k).2.2.2.2.2.2) (by omega) (by omega)
        by_cases hE : E3 (aT A k)
        · have hE8 := e1.mpr hE
          obtain ⟨kd, hkd⟩ : ∃ kd, kd = (if g = 0 then 0 else 1) := ⟨_, rfl⟩
          have hkd1 : kd ≤ 1 := by rw [hkd]; split <;> omega
          have hp6 := (pow6 z (by omega)).1
          obtain ⟨c0, hc0, hno, hlast⟩ : ∃ c0, c0 ≤ 6 ^ z ∧ (∀ c, c < c0 → ¬ brk z kd (aC A 1) (aT A k) law (lkc z c)) ∧ (c0 = 6 ^ z ∨ (c0 < 6 ^ z ∧ brk z kd (aC A 1) (aT A k) law (lkc z c0))) := by
            by_cases h : ∃ j, j < 6 ^ z ∧ brk z kd (aC A 1) (aT A k) law (lkc z j)
            · obtain ⟨c0, h1, h2⟩ := pk_least _ h
              exact ⟨c0, by omega, fun j hj hg => h2 j hj ⟨by omega, hg⟩, Or.inr h1⟩
            · exact ⟨_, Nat.le_refl _, fun j hj hg => h ⟨j, hj, hg⟩, Or.inl rfl⟩
          refine ⟨.int (if c0 = 6 ^ z then -4 else nI c0), A, hA, ?_, ?_⟩
          · intro s Q hJ hk
            obtain ⟨T, hT1, hT2⟩ := hJ.2.2.2.1 k hk3
            have hT5 := hT2
            obtain ⟨w', sc, pr, hT3, hT4⟩ := hT2
            have fin : ∀ s', qfr 74 122 s s' → Q (some (.int (if c0 = 6 ^ z then -4 else nI c0))) s' := fun s' F => hk s' (hJ.fr hA F (by omega)) (F.c (by omega) (by omega))
            refine qP.of (L := [_, _, _, _, _, _]) (by omega) (hP _ rfl) ms_Desk_breach rfl ?_
            show qW X PR (d - 1) (some .int) cd_Desk_breach 0 _ _ _ _
            by_cases hg : g = 0
            · rw [if_pos hg] at hkd
              subst hkd
              refine qW.blk rfl ?_
              refine qv_aload rfl ?_
              refine qv_gr ly_8 ⟨rfl, rfl, rfl⟩ (by omega) ?_
              refine qv_iload rfl ?_
              refine qv_virtE (ly_9.rcv _) sg_Chamber_treeAt rfl rfl (r_treeAt_y hP (by omega) hJ.1.2.2.2.1 h12 hk3 hT1) ?_
              refine qv_astore (L' := [_, _, _, _, _, _]) rfl ?_
              refine qv_aload rfl ?_
              refine qv_null_f (nx := 1) rfl ?_
              refine qW.blk rfl ?_
              refine qv_iload rfl ?_
              refine qv_iconst (v := 0) rfl ?_
              refine qv_iconst (v := 2) rfl ?_
              refine qv_staticE sg_Desk_within rfl (r_Desk_within hP (by omega) (nI law) (nI 0) (nI 2) _) ?_
              refine qv_if_eq_f (bI_ne.mpr (iw)) (nx := 2) rfl ?_
              refine qW.blk rfl ?_
              refine qv_iload rfl ?_
              refine qv_iconst (v := 1) rfl ?_
              refine qv_iconst (v := 3) rfl ?_
              refine qv_staticE sg_Desk_within rfl (r_Desk_within hP (by omega) (nI z) (nI 1) (nI 3) _) ?_
              refine qv_if_ne_t (bI_ne.mpr (hm)) (tgt := 4) rfl ?_
              refine qW.blk rfl ?_
              refine qv_aload rfl ?_
              refine qv_gh (hT3.o rfl) rfl rfl ?_
              refine qv_aload rfl ?_
              refine qv_gh (hT3.o rfl) rfl rfl ?_
              refine qv_ior ?_
              refine qv_iconst (v := 8) rfl ?_
              refine qv_icmp_lt_t (by rw [horN]; exact nI_lt hE8 (show 8 < 2 ^ 31 by decide)) (tgt := 6) rfl ?_
              refine qW.blk rfl ?_
              refine qv_aload rfl ?_
              refine qv_gr ly_8 ⟨rfl, rfl, rfl⟩ (by omega) ?_
              refine qv_iload rfl ?_
              refine qv_iload rfl ?_
              refine qv_if_eq_t (hg) (tgt := 8) rfl ?_
              refine qW.blk rfl ?_
              refine qv_iconst (v := 0) rfl ?_
              refine qv_nil (nx := 9) rfl ?_
              refine qW.blk rfl ?_
              refine qv_aload rfl ?_
              refine qv_gr ly_8 ⟨rfl, rfl, rfl⟩ (by omega) ?_
              refine qv_gi ly_9 ⟨rfl, rfl, rfl⟩ (hJ.1.2.1) ?_
              refine qv_virt (ly_121.rcv _) sg_Laws_assemble rfl rfl (w_assemble hP (by omega) hz (fun s1 F1 m1 q1 q2 => ?_)) 
              refine qv_aload rfl ?_
              refine qv_gr ly_8 ⟨rfl, rfl, rfl⟩ (by omega) ?_
              refine qv_aload rfl ?_
              refine qv_virt (ly_121.rcv _) sg_Laws_reckonEnds rfl rfl (w_reckon hP hX2 (by omega) hz hkd1 hD hE (by rw [F1.R]; exact hT5) m1 q1 q2 (fun s2 w2 F2 m2 q3 q4 q5 => ?_)) 
              refine qv_aload rfl ?_
              refine qv_gr ly_8 ⟨rfl, rfl, rfl⟩ (by omega) ?_
              refine qv_iload rfl ?_
              refine qv_virt (ly_121.rcv _) sg_Laws_firstBreach rfl rfl (w_firstBreach hP hX2 hX3 hX4 (by omega) hz hkd1 m2 q3 q4 hD hE q5 hlaw hno hlast (fun s3 F3 => ?_)) 
              refine qv_iret (rfl) ?_
              exact fin s3 ((F1.mono (by omega) (by omega)).trans ((F2.mono (by omega) (by omega)).trans (F3.mono (by omega) (by omega))))
            · rw [if_neg hg] at hkd
              subst hkd
              refine qW.blk rfl ?_
              refine qv_aload rfl ?_
              refine qv_gr ly_8 ⟨rfl, rfl, rfl⟩ (by omega) ?_
              refine qv_iload rfl ?_
              refine qv_virtE (ly_9.rcv _) sg_Chamber_treeAt rfl rfl (r_treeAt_y hP (by omega) hJ.1.2.2.2.1 h12 hk3 hT1) ?_
              refine qv_astore (L' := [_, _, _, _, _, _]) rfl ?_
              refine qv_aload rfl ?_
              refine qv_null_f (nx := 1) rfl ?_
              refine qW.blk rfl ?_
              refine qv_iload rfl ?_
              refine qv_iconst (v := 0) rfl ?_
              refine qv_iconst (v := 2) rfl ?_
              refine qv_staticE sg_Desk_within rfl (r_Desk_within hP (by omega) (nI law) (nI 0) (nI 2) _) ?_
              refine qv_if_eq_f (bI_ne.mpr (iw)) (nx := 2) rfl ?_
              refine qW.blk rfl ?_
              refine qv_iload rfl ?_
              refine qv_iconst (v := 1) rfl ?_
              refine qv_iconst (v := 3) rfl ?_
              refine qv_staticE sg_Desk_within rfl (r_Desk_within hP (by omega) (nI z) (nI 1) (nI 3) _) ?_
              refine qv_if_ne_t (bI_ne.mpr (hm)) (tgt := 4) rfl ?_
              refine qW.blk rfl ?_
              refine qv_aload rfl ?_
              refine qv_gh (hT3.o rfl) rfl rfl ?_
              refine qv_aload rfl ?_
              refine qv_gh (hT3.o rfl) rfl rfl ?_
              refine qv_ior ?_
              refine qv_iconst (v := 8) rfl ?_
              refine qv_icmp_lt_t (by rw [horN]; exact nI_lt hE8 (show 8 < 2 ^ 31 by decide)) (tgt := 6) rfl ?_
              refine qW.blk rfl ?_
              refine qv_aload rfl ?_
              refine qv_gr ly_8 ⟨rfl, rfl, rfl⟩ (by omega) ?_
              refine qv_iload rfl ?_
              refine qv_iload rfl ?_
              refine qv_if_eq_f (hg) (nx := 7) rfl ?_
              refine qW.blk rfl ?_
              refine qv_iconst (v := 1) rfl ?_
              refine qv_goto (tgt := 9) rfl ?_
              refine qW.blk rfl ?_
              refine qv_aload rfl ?_
              refine qv_gr ly_8 ⟨rfl, rfl, rfl⟩ (by omega) ?_
              refine qv_gi ly_9 ⟨rfl, rfl, rfl⟩ (hJ.1.2.1) ?_
              refine qv_virt (ly_121.rcv _) sg_Laws_assemble rfl rfl (w_assemble hP (by omega) hz (fun s1 F1 m1 q1 q2 => ?_)) 
              refine qv_aload rfl ?_
              refine qv_gr ly_8 ⟨rfl, rfl, rfl⟩ (by omega) ?_
              refine qv_aload rfl ?_
              refine qv_virt (ly_121.rcv _) sg_Laws_reckonEnds rfl rfl (w_reckon hP hX2 (by omega) hz hkd1 hD hE (by rw [F1.R]; exact hT5) m1 q1 q2 (fun s2 w2 F2 m2 q3 q4 q5 => ?_)) 
              refine qv_aload rfl ?_
              refine qv_gr ly_8 ⟨rfl, rfl, rfl⟩ (by omega) ?_
              refine qv_iload rfl ?_
              refine qv_virt (ly_121.rcv _) sg_Laws_firstBreach rfl rfl (w_firstBreach hP hX2 hX3 hX4 (by omega) hz hkd1 m2 q3 q4 hD hE q5 hlaw hno hlast (fun s3 F3 => ?_)) 
              refine qv_iret (rfl) ?_
              exact fin s3 ((F1.mono (by omega) (by omega)).trans ((F2.mono (by omega) (by omega)).trans (F3.mono (by omega) (by omega))))
          · intro s Q hJ hk
            have J1 := hJ.thr (v := 0)
            have hall := e2.mp hE
            obtain ⟨hti, -⟩ := J1.2.2.2.1 k hk3
            obtain ⟨t1, t2, t3, t4, t5⟩ := hti
            obtain ⟨n1, n2, n3, n4, n5, n6⟩ := J1.2.2.2.2.2
            obtain ⟨hdb⟩ : Nonempty (∀ l, Decidable (brk z kd (aC A 1) (aT A k) law l)) := ⟨fun _ => Classical.propDecidable _⟩
            obtain ⟨sB, hsB⟩ : ∃ sB : QST, sB = uF (uF (uF s 163 0 0) 163 35 (nI z)) 163 28 (nI kd) := ⟨_, rfl⟩
            have hrB : rch3 sB z kd (aC A) := by
              rw [hsB]
              exact ⟨J1.1, by rw [qF_uFk (by omega), qF_uFs], qF_uFs, by rw [qF_uFk (by omega), qF_uFk (by omega)]; exact n2, by rw [qF_uFk (by omega), qF_uFk (by omega)]; exact n5⟩
            have hTB : rTD sB k (aT A k) := by rw [hsB]; exact (J1.2.2.2.1 k hk3).cg (fun _ _ => rfl)
            have back : ∀ s2, rfr sB s2 → rfr (uF s 163 0 0) (uF (uF s2 163 35 0) 163 28 (-1)) := fun s2 F => by
              rw [hsB] at F
              refine ⟨((((qfr.rf (uF s 163 0 0)).uF (by omega)).uF (by omega)).trans F.1).uF (by omega) |>.uF (by omega), fun c hc => F.2.1 c hc, F.2.2.1, fun j hj => ?_⟩
              by_cases j28 : j = 28
              · subst j28; rw [qF_uFs]; exact n1.symm
              · rw [qF_uFk j28]
                by_cases j35 : j = 35
                · subst j35; rw [qF_uFs]; exact n6.symm
                · rw [qF_uFk j35, F.2.2.2 j hj, qF_uFk j28, qF_uFk j35]
            have fin : ∀ s2, rfr sB s2 → Q (some (.int (if c0 = 6 ^ z then -4 else nI c0))) (uF (uF s2 163 35 0) 163 28 (-1)) := fun s2 F => hk _ (J1.fr (back s2 F)) (((qfr.rf s).uF (by omega)).trans (back s2 F).1)
            refine qP.of (L := [_, _, _, _, _, _, _, _]) (by omega) (hP _ rfl) ms_Model_breach rfl ?_
            show qW X PR (d - 1) (some .int) cd_Model_breach 0 _ _ _ _
            have look : ∀ (c n : Nat) (L6 L7 : Option Value), n + c = (aT A k).2.2.2.1 → (∀ L6 L7, qW X PR (d - 1) (some .int) cd_Model_breach 12 [some (.ref (163)), some (.int (nI k)), some (.int (nI law)), some (.int (nI z)), some (.int (g)), some (.int (nI (aT A k).2.2.2.1)), L6, L7] [] (uF s 163 0 0) Q) → qW X PR (d - 1) (some .int) cd_Model_breach 5 [some (.ref (163)), some (.int (nI k)), some (.int (nI law)), some (.int (nI z)), some (.int (g)), some (.int (nI n)), L6, L7] [] (uF s 163 0 0) Q := by
              intro c
              induction c with
              | zero =>
                intro n L6 L7 hn k12
                have e : n = (aT A k).2.2.2.1 := by omega
                rw [e]
                refine qW.blk rfl ?_
                refine qv_iload rfl ?_
                refine qv_aload rfl ?_
                refine qv_gr ly_163 ⟨rfl, rfl, rfl⟩ (by omega) ?_
                refine qv_iload rfl ?_
                refine qv_ia ly_166 rfl (by omega) (by decide) (t1) ?_
                refine qv_icmp_geNt rfl rfl (by omega) (by omega) (by omega) (tgt := 12) rfl ?_
                exact k12 _ _
              | succ c ih =>
                intro n L6 L7 hn k12
                have hnK : n < (aT A k).2.2.2.1 := by omega
                obtain ⟨u1, u2, u3, u4⟩ := t5 n hnK
                have hk2 := (t4 n hnK).1
                by_cases hq : ((aT A k).2.1 n).1 = 1
                · refine qW.blk rfl ?_
                  refine qv_iload rfl ?_
                  refine qv_aload rfl ?_
                  refine qv_gr ly_163 ⟨rfl, rfl, rfl⟩ (by omega) ?_
                  refine qv_iload rfl ?_
                  refine qv_ia ly_166 rfl (by omega) (by decide) (t1) ?_
                  refine qv_icmp_geNf rfl rfl (by omega) (by omega) (by omega) (nx := 6) rfl ?_
                  refine qW.blk rfl ?_
                  refine qv_aload rfl ?_
                  refine qv_gr ly_163 ⟨rfl, rfl, rfl⟩ (by omega) ?_
                  refine qv_iconst (v := 100) rfl ?_
                  refine qv_iload rfl ?_
                  refine qv_imulN (p := 100) rfl rfl ?_
                  refine qv_iload rfl ?_
                  refine qv_iaddN rfl rfl ?_
                  refine qv_ia ly_168 rfl (by omega) (by decide) (u1) ?_
                  refine qv_istore (L' := [_, _, _, _, _, _, _, _]) rfl ?_
                  refine qv_iload rfl ?_
                  refine qv_iconst (v := 1) rfl ?_
                  refine qv_icmp_eqNt (q := 1) rfl rfl (by omega) (by omega) (by omega) (tgt := 11) rfl ?_
                  refine qW.blk rfl ?_
                  refine qv_iinc (L' := [_, _, _, _, _, _, _, _]) rfl (nI_succ _).symm rfl ?_
                  refine qv_goto (tgt := 5) rfl ?_
                  exact ih (n + 1) _ _ (by omega) k12
                · obtain ⟨x1, x2⟩ := hall n hnK hq
                  have x3 := u3 True.intro
                  by_cases hq2 : ((aT A k).2.1 n).1 = 2
                  · have x4 := u4 hq2
                    have x5 := x2 hq2
                    refine qW.blk rfl ?_
                    refine qv_iload rfl ?_
                    refine qv_aload rfl ?_
                    refine qv_gr ly_163 ⟨rfl, rfl, rfl⟩ (by omega) ?_
                    refine qv_iload rfl ?_
                    refine qv_ia ly_166 rfl (by omega) (by decide) (t1) ?_
                    refine qv_icmp_geNf rfl rfl (by omega) (by omega) (by omega) (nx := 6) rfl ?_
                    refine qW.blk rfl ?_
                    refine qv_aload rfl ?_
                    refine qv_gr ly_163 ⟨rfl, rfl, rfl⟩ (by omega) ?_
                    refine qv_iconst (v := 100) rfl ?_
                    refine qv_iload rfl ?_
                    refine qv_imulN (p := 100) rfl rfl ?_
                    refine qv_iload rfl ?_
                    refine qv_iaddN rfl rfl ?_
                    refine qv_ia ly_168 rfl (by omega) (by decide) (u1) ?_
                    refine qv_istore (L' := [_, _, _, _, _, _, _, _]) rfl ?_
                    refine qv_iload rfl ?_
                    refine qv_iconst (v := 1) rfl ?_
                    refine qv_icmp_eqNf (q := 1) rfl rfl (by omega) (by omega) (by omega) (nx := 7) rfl ?_
                    refine qW.blk rfl ?_
                    refine qv_aload rfl ?_
                    refine qv_gr ly_163 ⟨rfl, rfl, rfl⟩ (by omega) ?_
                    refine qv_iconst (v := 100) rfl ?_
                    refine qv_iload rfl ?_
                    refine qv_imulN (p := 100) rfl rfl ?_
                    refine qv_iload rfl ?_
                    refine qv_iaddN rfl rfl ?_
                    refine qv_ia ly_171 rfl (by omega) (by decide) (x3) ?_
                    refine qv_iconst (v := 2) rfl ?_
                    refine qv_icmp_gtNf (q := 2) rfl rfl (by omega) (by omega) (by omega) (nx := 8) rfl ?_
                    refine qW.blk rfl ?_
                    refine qv_iload rfl ?_
                    refine qv_iconst (v := 2) rfl ?_
                    refine qv_icmp_neNf (q := 2) rfl rfl (by omega) (by omega) (by omega) (nx := 9) rfl ?_
                    refine qW.blk rfl ?_
                    refine qv_aload rfl ?_
                    refine qv_gr ly_163 ⟨rfl, rfl, rfl⟩ (by omega) ?_
                    refine qv_iconst (v := 100) rfl ?_
                    refine qv_iload rfl ?_
                    refine qv_imulN (p := 100) rfl rfl ?_
                    refine qv_iload rfl ?_
                    refine qv_iaddN rfl rfl ?_
                    refine qv_ia ly_172 rfl (by omega) (by decide) (x4) ?_
                    refine qv_iconst (v := 2) rfl ?_
                    refine qv_icmp_leNt (q := 2) rfl rfl (by omega) (by omega) (by omega) (tgt := 11) rfl ?_
                    refine qW.blk rfl ?_
                    refine qv_iinc (L' := [_, _, _, _, _, _, _, _]) rfl (nI_succ _).symm rfl ?_
                    refine qv_goto (tgt := 5) rfl ?_
                    exact ih (n + 1) _ _ (by omega) k12
                  · refine qW.blk rfl ?_
                    refine qv_iload rfl ?_
                    refine qv_aload rfl ?_
                    refine qv_gr ly_163 ⟨rfl, rfl, rfl⟩ (by omega) ?_
                    refine qv_iload rfl ?_
                    refine qv_ia ly_166 rfl (by omega) (by decide) (t1) ?_
                    refine qv_icmp_geNf rfl rfl (by omega) (by omega) (by omega) (nx := 6) rfl ?_
                    refine qW.blk rfl ?_
                    refine qv_aload rfl ?_
                    refine qv_gr ly_163 ⟨rfl, rfl, rfl⟩ (by omega) ?_
                    refine qv_iconst (v := 100) rfl ?_
                    refine qv_iload rfl ?_
                    refine qv_imulN (p := 100) rfl rfl ?_
                    refine qv_iload rfl ?_
                    refine qv_iaddN rfl rfl ?_
                    refine qv_ia ly_168 rfl (by omega) (by decide) (u1) ?_
                    refine qv_istore (L' := [_, _, _, _, _, _, _, _]) rfl ?_
                    refine qv_iload rfl ?_
                    refine qv_iconst (v := 1) rfl ?_
                    refine qv_icmp_eqNf (q := 1) rfl rfl (by omega) (by omega) (by omega) (nx := 7) rfl ?_
                    refine qW.blk rfl ?_
                    refine qv_aload rfl ?_
                    refine qv_gr ly_163 ⟨rfl, rfl, rfl⟩ (by omega) ?_
                    refine qv_iconst (v := 100) rfl ?_
                    refine qv_iload rfl ?_
                    refine qv_imulN (p := 100) rfl rfl ?_
                    refine qv_iload rfl ?_
                    refine qv_iaddN rfl rfl ?_
                    refine qv_ia ly_171 rfl (by omega) (by decide) (x3) ?_
                    refine qv_iconst (v := 2) rfl ?_
                    refine qv_icmp_gtNf (q := 2) rfl rfl (by omega) (by omega) (by omega) (nx := 8) rfl ?_
                    refine qW.blk rfl ?_
                    refine qv_iload rfl ?_
                    refine qv_iconst (v := 2) rfl ?_
                    refine qv_icmp_neNt (q := 2) rfl rfl (by omega) (by omega) (by omega) (tgt := 11) rfl ?_
                    refine qW.blk rfl ?_
                    refine qv_iinc (L' := [_, _, _, _, _, _, _, _]) rfl (nI_succ _).symm rfl ?_
                    refine qv_goto (tgt := 5) rfl ?_
                    exact ih (n + 1) _ _ (by omega) k12
            have loop : ∀ (r c : Nat) (s1 : QST), c + r = c0 → rfr sB s1 → qW X PR (d - 1) (some .int) cd_Model_breach 21 [some (.ref (163)), some (.int (nI k)), some (.int (nI law)), some (.int (nI z)), some (.int (g)), some (.int (nI (6 ^ z))), some (.int (-4)), some (.int (nI c))] [] s1 Q := by
              intro r
              induction r with
              | zero =>
                intro c s1 hc F1
                have e : c = c0 := by omega
                subst e
                rcases hlast with h | ⟨g1, g2⟩
                · have fin1 := fin s1 F1
                  rw [if_pos h] at fin1
                  refine qW.blk rfl ?_
                  refine qv_iload rfl ?_
                  refine qv_iload rfl ?_
                  refine qv_icmp_geNt rfl rfl (by omega) (by omega) (by omega) (tgt := 27) rfl ?_
                  refine qW.blk rfl ?_
                  refine qv_aload rfl ?_
                  refine qv_iconst (v := 0) rfl ?_
                  refine qv_pi ly_163 ⟨rfl, rfl, rfl⟩ (rfl) ?_
                  refine qv_aload rfl ?_
                  refine qv_iconst (v := (-1)) rfl ?_
                  refine qv_pi ly_163 ⟨rfl, rfl, rfl⟩ (rfl) ?_
                  refine qv_iload rfl ?_
                  refine qv_iret (rfl) ?_
                  exact fin1
                · have fin1 := fun s2 F => fin s2 F
                  rw [if_neg (by omega)] at fin1
                  have hr1 := hrB.fr F1
                  by_cases hlt : c + 1 < 6 ^ z
                  · refine qW.blk rfl ?_
                    refine qv_iload rfl ?_
                    refine qv_iload rfl ?_
                    refine qv_icmp_geNf rfl rfl (by omega) (by omega) (by omega) (nx := 22) rfl ?_
                    refine qW.blk rfl ?_
                    refine qv_iload rfl ?_
                    refine qv_if_ge_f (by decide) (nx := 23) rfl ?_
                    refine qW.blk rfl ?_
                    refine qv_aload rfl ?_
                    refine qv_iload rfl ?_
                    refine qv_virt (ly_163.rcv _) sg_Model_findChamber rfl rfl (w_findChamber hP (by omega) hz (by omega) hr1.2.1 (fun s2 F2 q2 => ?_)) 
                    refine qv_aload rfl ?_
                    refine qv_iload rfl ?_
                    refine qv_iload rfl ?_
                    refine qv_virt (ly_163.rcv _) sg_Model_breaks rfl rfl (w_breaks hP (by omega) hz1 hz hkd1 (hrB.fr (F1.sQ F2 (by omega))) (by omega) hD hE (hTB.cg (fun c hc => (F1.sQ F2 (by omega)).2.1 c (by omega))) (fun j => lkc_lt) q2 hlaw (fun s3 F3 => ?_)) 
                    refine qv_if_eq_f (bI_ne.mpr (g2)) (nx := 24) rfl ?_
                    refine qW.blk rfl ?_
                    refine qv_iload rfl ?_
                    refine qv_goto (tgt := 26) rfl ?_
                    refine qW.blk rfl ?_
                    refine qv_istore (L' := [_, _, _, _, _, _, _, _]) rfl ?_
                    refine qv_iinc (L' := [_, _, _, _, _, _, _, _]) rfl (nI_succ _).symm rfl ?_
                    refine qv_goto (tgt := 21) rfl ?_
                    refine qW.blk rfl ?_
                    refine qv_iload rfl ?_
                    refine qv_iload rfl ?_
                    refine qv_icmp_geNf rfl rfl (by omega) (by omega) (by omega) (nx := 22) rfl ?_
                    refine qW.blk rfl ?_
                    refine qv_iload rfl ?_
                    refine qv_if_ge_t (nI_pos' (by omega)) (tgt := 27) rfl ?_
                    refine qW.blk rfl ?_
                    refine qv_aload rfl ?_
                    refine qv_iconst (v := 0) rfl ?_
                    refine qv_pi ly_163 ⟨rfl, rfl, rfl⟩ (rfl) ?_
                    refine qv_aload rfl ?_
                    refine qv_iconst (v := (-1)) rfl ?_
                    refine qv_pi ly_163 ⟨rfl, rfl, rfl⟩ (rfl) ?_
                    refine qv_iload rfl ?_
                    refine qv_iret (rfl) ?_
                    exact fin1 s3 ((F1.sQ F2 (by omega)).trans F3)
                  · refine qW.blk rfl ?_
                    refine qv_iload rfl ?_
                    refine qv_iload rfl ?_
                    refine qv_icmp_geNf rfl rfl (by omega) (by omega) (by omega) (nx := 22) rfl ?_
                    refine qW.blk rfl ?_
                    refine qv_iload rfl ?_
                    refine qv_if_ge_f (by decide) (nx := 23) rfl ?_
                    refine qW.blk rfl ?_
                    refine qv_aload rfl ?_
                    refine qv_iload rfl ?_
                    refine qv_virt (ly_163.rcv _) sg_Model_findChamber rfl rfl (w_findChamber hP (by omega) hz (by omega) hr1.2.1 (fun s2 F2 q2 => ?_)) 
                    refine qv_aload rfl ?_
                    refine qv_iload rfl ?_
                    refine qv_iload rfl ?_
                    refine qv_virt (ly_163.rcv _) sg_Model_breaks rfl rfl (w_breaks hP (by omega) hz1 hz hkd1 (hrB.fr (F1.sQ F2 (by omega))) (by omega) hD hE (hTB.cg (fun c hc => (F1.sQ F2 (by omega)).2.1 c (by omega))) (fun j => lkc_lt) q2 hlaw (fun s3 F3 => ?_)) 
                    refine qv_if_eq_f (bI_ne.mpr (g2)) (nx := 24) rfl ?_
                    refine qW.blk rfl ?_
                    refine qv_iload rfl ?_
                    refine qv_goto (tgt := 26) rfl ?_
                    refine qW.blk rfl ?_
                    refine qv_istore (L' := [_, _, _, _, _, _, _, _]) rfl ?_
                    refine qv_iinc (L' := [_, _, _, _, _, _, _, _]) rfl (nI_succ _).symm rfl ?_
                    refine qv_goto (tgt := 21) rfl ?_
                    refine qW.blk rfl ?_
                    refine qv_iload rfl ?_
                    refine qv_iload rfl ?_
                    refine qv_icmp_geNt rfl rfl (by omega) (by omega) (by omega) (tgt := 27) rfl ?_
                    refine qW.blk rfl ?_
                    refine qv_aload rfl ?_
                    refine qv_iconst (v := 0) rfl ?_
                    refine qv_pi ly_163 ⟨rfl, rfl, rfl⟩ (rfl) ?_
                    refine qv_aload rfl ?_
                    refine qv_iconst (v := (-1)) rfl ?_
                    refine qv_pi ly_163 ⟨rfl, rfl, rfl⟩ (rfl) ?_
                    refine qv_iload rfl ?_
                    refine qv_iret (rfl) ?_
                    exact fin1 s3 ((F1.sQ F2 (by omega)).trans F3)
              | succ r ih =>
                intro c s1 hc F1
                have hr1 := hrB.fr F1
                refine qW.blk rfl ?_
                refine qv_iload rfl ?_
                refine qv_iload rfl ?_
                refine qv_icmp_geNf rfl rfl (by omega) (by omega) (by omega) (nx := 22) rfl ?_
                refine qW.blk rfl ?_
                refine qv_iload rfl ?_
                refine qv_if_ge_f (by decide) (nx := 23) rfl ?_
                refine qW.blk rfl ?_
                refine qv_aload rfl ?_
                refine qv_iload rfl ?_
                refine qv_virt (ly_163.rcv _) sg_Model_findChamber rfl rfl (w_findChamber hP (by omega) hz (by omega) hr1.2.1 (fun s2 F2 q2 => ?_)) 
                refine qv_aload rfl ?_
                refine qv_iload rfl ?_
                refine qv_iload rfl ?_
                refine qv_virt (ly_163.rcv _) sg_Model_breaks rfl rfl (w_breaks hP (by omega) hz1 hz hkd1 (hrB.fr (F1.sQ F2 (by omega))) (by omega) hD hE (hTB.cg (fun c hc => (F1.sQ F2 (by omega)).2.1 c (by omega))) (fun j => lkc_lt) q2 hlaw (fun s3 F3 => ?_)) 
                refine qv_if_eq_t (bI_f (hno c (by omega))) (tgt := 25) rfl ?_
                refine qW.blk rfl ?_
                refine qv_iload rfl ?_
                refine qv_nil (nx := 26) rfl ?_
                refine qW.blk rfl ?_
                refine qv_istore (L' := [_, _, _, _, _, _, _, _]) rfl ?_
                refine qv_iinc (L' := [_, _, _, _, _, _, _, _]) rfl (nI_succ _).symm rfl ?_
                refine qv_goto (tgt := 21) rfl ?_
                exact ih (c + 1) s3 (by omega) ((F1.sQ F2 (by omega)).trans F3)
            refine qW.blk rfl ?_
            refine qv_aload rfl ?_
            refine qv_iconst (v := 0) rfl ?_
            refine qv_pi ly_163 ⟨rfl, rfl, rfl⟩ (rfl) ?_
            refine qv_aload rfl ?_
            refine qv_iload rfl ?_
            refine qv_virtE (ly_163.rcv _) sg_Model_isTree rfl rfl (r_M_isTree hP (by omega) (nI k) (J1.1 3 (by decide))) ?_
            refine qv_if_eq_f (bI_ne.mpr (it)) (nx := 1) rfl ?_
            refine qW.blk rfl ?_
            refine qv_iload rfl ?_
            refine qv_iconst (v := 0) rfl ?_
            refine qv_iconst (v := 2) rfl ?_
            refine qv_staticE sg_Model_in rfl (r_Model_in hP (by omega) (nI law) (nI 0) (nI 2) _) ?_
            refine qv_if_eq_f (bI_ne.mpr (iw)) (nx := 2) rfl ?_
            refine qW.blk rfl ?_
            refine qv_iload rfl ?_
            refine qv_iconst (v := 1) rfl ?_
            refine qv_iconst (v := 3) rfl ?_
            refine qv_staticE sg_Model_in rfl (r_Model_in hP (by omega) (nI z) (nI 1) (nI 3) _) ?_
            refine qv_if_ne_t (bI_ne.mpr (hm)) (tgt := 4) rfl ?_
            refine qW.blk rfl ?_
            refine qv_iconst (v := 0) rfl ?_
            refine qv_istore (L' := [_, _, _, _, _, _, _, _]) rfl ?_
            refine qv_nil (nx := 5) rfl ?_
            refine look _ 0 _ _ (Nat.zero_add _) (fun L6 L7 => ?_)
            have lp := loop c0 0 sB (Nat.zero_add _) (rfr.rf _)
            by_cases hg : g = 0
            · rw [if_pos hg] at hkd
              subst hkd
              subst hsB
              rcases (show z = 1 ∨ z = 2 ∨ z = 3 by omega) with h | h | h
              · subst h
                refine qW.blk rfl ?_
                refine qv_iload rfl ?_
                refine qv_iconst (v := 1) rfl ?_
                refine qv_icmp_neNf (q := 1) rfl rfl (by omega) (by omega) (by omega) (nx := 13) rfl ?_
                refine qW.blk rfl ?_
                refine qv_iconst (v := 6) rfl ?_
                refine qv_goto (tgt := 17) rfl ?_
                refine qW.blk rfl ?_
                refine qv_istore (L' := [_, _, _, _, _, _, _, _]) rfl ?_
                refine qv_iconst (v := (-4)) rfl ?_
                refine qv_istore (L' := [_, _, _, _, _, _, _, _]) rfl ?_
                refine qv_aload rfl ?_
                refine qv_iload rfl ?_
                refine qv_pi ly_163 ⟨rfl, rfl, rfl⟩ (rfl) ?_
                refine qv_aload rfl ?_
                refine qv_iload rfl ?_
                refine qv_if_eq_t (hg) (tgt := 19) rfl ?_
                refine qW.blk rfl ?_
                refine qv_iconst (v := 0) rfl ?_
                refine qv_nil (nx := 20) rfl ?_
                refine qW.blk rfl ?_
                refine qv_pi ly_163 ⟨rfl, rfl, rfl⟩ (rfl) ?_
                refine qv_iconst (v := 0) rfl ?_
                refine qv_istore (L' := [_, _, _, _, _, _, _, _]) rfl ?_
                refine qv_nil (nx := 21) rfl ?_
                exact lp
              · subst h
                refine qW.blk rfl ?_
                refine qv_iload rfl ?_
                refine qv_iconst (v := 1) rfl ?_
                refine qv_icmp_neNt (q := 1) rfl rfl (by omega) (by omega) (by omega) (tgt := 14) rfl ?_
                refine qW.blk rfl ?_
                refine qv_iload rfl ?_
                refine qv_iconst (v := 2) rfl ?_
                refine qv_icmp_neNf (q := 2) rfl rfl (by omega) (by omega) (by omega) (nx := 15) rfl ?_
                refine qW.blk rfl ?_
                refine qv_iconst (v := 36) rfl ?_
                refine qv_goto (tgt := 17) rfl ?_
                refine qW.blk rfl ?_
                refine qv_istore (L' := [_, _, _, _, _, _, _, _]) rfl ?_
                refine qv_iconst (v := (-4)) rfl ?_
                refine qv_istore (L' := [_, _, _, _, _, _, _, _]) rfl ?_
                refine qv_aload rfl ?_
                refine qv_iload rfl ?_
                refine qv_pi ly_163 ⟨rfl, rfl, rfl⟩ (rfl) ?_
                refine qv_aload rfl ?_
                refine qv_iload rfl ?_
                refine qv_if_eq_t (hg) (tgt := 19) rfl ?_
                refine qW.blk rfl ?_
                refine qv_iconst (v := 0) rfl ?_
                refine qv_nil (nx := 20) rfl ?_
                refine qW.blk rfl ?_
                refine qv_pi ly_163 ⟨rfl, rfl, rfl⟩ (rfl) ?_
                refine qv_iconst (v := 0) rfl ?_
                refine qv_istore (L' := [_, _, _, _, _, _, _, _]) rfl ?_
                refine qv_nil (nx := 21) rfl ?_
                exact lp
              · subst h
                refine qW.blk rfl ?_
                refine qv_iload rfl ?_
                refine qv_iconst (v := 1) rfl ?_
                refine qv_icmp_neNt (q := 1) rfl rfl (by omega) (by omega) (by omega) (tgt := 14) rfl ?_
                refine qW.blk rfl ?_
                refine qv_iload rfl ?_
                refine qv_iconst (v := 2) rfl ?_
                refine qv_icmp_neNt (q := 2) rfl rfl (by omega) (by omega) (by omega) (tgt := 16) rfl ?_
                refine qW.blk rfl ?_
                refine qv_iconst (v := 216) rfl ?_
                refine qv_nil (nx := 17) rfl ?_
                refine qW.blk rfl ?_
                refine qv_istore (L' := [_, _, _, _, _, _, _, _]) rfl ?_
                refine qv_iconst (v := (-4)) rfl ?_
                refine qv_istore (L' := [_, _, _, _, _, _, _, _]) rfl ?_
                refine qv_aload rfl ?_
                refine qv_iload rfl ?_
                refine qv_pi ly_163 ⟨rfl, rfl, rfl⟩ (rfl) ?_
                refine qv_aload rfl ?_
                refine qv_iload rfl ?_
                refine qv_if_eq_t (hg) (tgt := 19) rfl ?_
                refine qW.blk rfl ?_
                refine qv_iconst (v := 0) rfl ?_
                refine qv_nil (nx := 20) rfl ?_
                refine qW.blk rfl ?_
                refine qv_pi ly_163 ⟨rfl, rfl, rfl⟩ (rfl) ?_
                refine qv_iconst (v := 0) rfl ?_
                refine qv_istore (L' := [_, _, _, _, _, _, _, _]) rfl ?_
                refine qv_nil (nx := 21) rfl ?_
                exact lp
            · rw [if_neg hg] at hkd
              subst hkd
              subst hsB
              rcases (show z = 1 ∨ z = 2 ∨ z = 3 by omega) with h | h | h
              · subst h
                refine qW.blk rfl ?_
                refine qv_iload rfl ?_
                refine qv_iconst (v := 1) rfl ?_
                refine qv_icmp_neNf (q := 1) rfl rfl (by omega) (by omega) (by omega) (nx := 13) rfl ?_
                refine qW.blk rfl ?_
                refine qv_iconst (v := 6) rfl ?_
                refine qv_goto (tgt := 17) rfl ?_
                refine qW.blk rfl ?_
                refine qv_istore (L' := [_, _, _, _, _, _, _, _]) rfl ?_
                refine qv_iconst (v := (-4)) rfl ?_
                refine qv_istore (L' := [_, _, _, _, _, _, _, _]) rfl ?_
                refine qv_aload rfl ?_
                refine qv_iload rfl ?_
                refine qv_pi ly_163 ⟨rfl, rfl, rfl⟩ (rfl) ?_
                refine qv_aload rfl ?_
                refine qv_iload rfl ?_
                refine qv_if_eq_f (hg) (nx := 18) rfl ?_
                refine qW.blk rfl ?_
                refine qv_iconst (v := 1) rfl ?_
                refine qv_goto (tgt := 20) rfl ?_
                refine qW.blk rfl ?_
                refine qv_pi ly_163 ⟨rfl, rfl, rfl⟩ (rfl) ?_
                refine qv_iconst (v := 0) rfl ?_
                refine qv_istore (L' := [_, _, _, _, _, _, _, _]) rfl ?_
                refine qv_nil (nx := 21) rfl ?_
                exact lp
              · subst h
                refine qW.blk rfl ?_
                refine qv_iload rfl ?_
                refine qv_iconst (v := 1) rfl ?_
                refine qv_icmp_neNt (q := 1) rfl rfl (by omega) (by omega) (by omega) (tgt := 14) rfl ?_
                refine qW.blk rfl ?_
                refine qv_iload rfl ?_
                refine qv_iconst (v := 2) rfl ?_
                refine qv_icmp_neNf (q := 2) rfl rfl (by omega) (by omega) (by omega) (nx := 15) rfl ?_
                refine qW.blk rfl ?_
                refine qv_iconst (v := 36) rfl ?_
                refine qv_goto (tgt := 17) rfl ?_
                refine qW.blk rfl ?_
                refine qv_istore (L' := [_, _, _, _, _, _, _, _]) rfl ?_
                refine qv_iconst (v := (-4)) rfl ?_
                refine qv_istore (L' := [_, _, _, _, _, _, _, _]) rfl ?_
                refine qv_aload rfl ?_
                refine qv_iload rfl ?_
                refine qv_pi ly_163 ⟨rfl, rfl, rfl⟩ (rfl) ?_
                refine qv_aload rfl ?_
                refine qv_iload rfl ?_
                refine qv_if_eq_f (hg) (nx := 18) rfl ?_
                refine qW.blk rfl ?_
                refine qv_iconst (v := 1) rfl ?_
                refine qv_goto (tgt := 20) rfl ?_
                refine qW.blk rfl ?_
                refine qv_pi ly_163 ⟨rfl, rfl, rfl⟩ (rfl) ?_
                refine qv_iconst (v := 0) rfl ?_
                refine qv_istore (L' := [_, _, _, _, _, _, _, _]) rfl ?_
                refine qv_nil (nx := 21) rfl ?_
                exact lp
              · subst h
                refine qW.blk rfl ?_
                refine qv_iload rfl ?_
                refine qv_iconst (v := 1) rfl ?_
                refine qv_icmp_neNt (q := 1) rfl rfl (by omega) (by omega) (by omega) (tgt := 14) rfl ?_
                refine qW.blk rfl ?_
                refine qv_iload rfl ?_
                refine qv_iconst (v := 2) rfl ?_
                refine qv_icmp_neNt (q := 2) rfl rfl (by omega) (by omega) (by omega) (tgt := 16) rfl ?_
                refine qW.blk rfl ?_
                refine qv_iconst (v := 216) rfl ?_
                refine qv_nil (nx := 17) rfl ?_
                refine qW.blk rfl ?_
                refine qv_istore (L' := [_, _, _, _, _, _, _, _]) rfl ?_
                refine qv_iconst (v := (-4)) rfl ?_
                refine qv_istore (L' := [_, _, _, _, _, _, _, _]) rfl ?_
                refine qv_aload rfl ?_
                refine qv_iload rfl ?_
                refine qv_pi ly_163 ⟨rfl, rfl, rfl⟩ (rfl) ?_
                refine qv_aload rfl ?_
                refine qv_iload rfl ?_
                refine qv_if_eq_f (hg) (nx := 18) rfl ?_
                refine qW.blk rfl ?_
                refine qv_iconst (v := 1) rfl ?_
                refine qv_goto (tgt := 20) rfl ?_
                refine qW.blk rfl ?_
                refine qv_pi ly_163 ⟨rfl, rfl, rfl⟩ (rfl) ?_
                refine qv_iconst (v := 0) rfl ?_
                refine qv_istore (L' := [_, _, _, _, _, _, _, _]) rfl ?_
                refine qv_nil (nx := 21) rfl ?_
                exact lp
        · have hE8 : ¬ (aT A k).2.2.2.2.2.1 ||| (aT A k).2.2.2.2.2.2 < 8 := fun q => hE (e1.mp q)
          refine ⟨.int (-3), A, hA, ?_, ?_⟩
          · intro s Q hJ hk
            obtain ⟨T, hT1, hT2⟩ := hJ.2.2.2.1 k hk3
            obtain ⟨w', sc, pr, hT3, hT4⟩ := hT2
            refine qP.of (L := [_, _, _, _, _, _]) (by omega) (hP _ rfl) ms_Desk_breach rfl ?_
            show qW X PR (d - 1) (some .int) cd_Desk_breach 0 _ _ _ _
            refine qW.blk rfl ?_
            refine qv_aload rfl ?_
            refine qv_gr ly_8 ⟨rfl, rfl, rfl⟩ (by omega) ?_
            refine qv_iload rfl ?_
            refine qv_virtE (ly_9.rcv _) sg_Chamber_treeAt rfl rfl (r_treeAt_y hP (by omega) hJ.1.2.2.2.1 h12 hk3 hT1) ?_
            refine qv_astore (L' := [_, _, _, _, _, _]) rfl ?_
            refine qv_aload rfl ?_
            refine qv_null_f (nx := 1) rfl ?_
            refine qW.blk rfl ?_
            refine qv_iload rfl ?_
            refine qv_iconst (v := 0) rfl ?_
            refine qv_iconst (v := 2) rfl ?_
            refine qv_staticE sg_Desk_within rfl (r_Desk_within hP (by omega) (nI law) (nI 0) (nI 2) _) ?_
            refine qv_if_eq_f (bI_ne.mpr (iw)) (nx := 2) rfl ?_
            refine qW.blk rfl ?_
            refine qv_iload rfl ?_
            refine qv_iconst (v := 1) rfl ?_
            refine qv_iconst (v := 3) rfl ?_
            refine qv_staticE sg_Desk_within rfl (r_Desk_within hP (by omega) (nI z) (nI 1) (nI 3) _) ?_
            refine qv_if_ne_t (bI_ne.mpr (hm)) (tgt := 4) rfl ?_
            refine qW.blk rfl ?_
            refine qv_aload rfl ?_
            refine qv_gh (hT3.o rfl) rfl rfl ?_
            refine qv_aload rfl ?_
            refine qv_gh (hT3.o rfl) rfl rfl ?_
            refine qv_ior ?_
            refine qv_iconst (v := 8) rfl ?_
            refine qv_icmp_lt_f (by rw [horN]; exact nI_nlt (Nat.not_lt.mp hE8) (by omega)) (nx := 5) rfl ?_
            refine qW.blk rfl ?_
            refine qv_iconst (v := (-3)) rfl ?_
            refine qv_iret (rfl) ?_
            exact hk s hJ (cfr.rf s)
          · intro s Q hJ hk
            have J1 := hJ.thr (v := 0)
            have fin := hk (uF s 163 0 0) J1 ((qfr.rf s).uF (by omega))
            obtain ⟨hti, -⟩ := J1.2.2.2.1 k hk3
            obtain ⟨t1, t2, t3, t4, t5⟩ := hti
            obtain ⟨n0, ⟨hn0, hbad⟩, hleast⟩ : ∃ n0, (n0 < (aT A k).2.2.2.1 ∧ (¬ ((aT A k).2.1 n0).1 = 1 ∧ ¬ (((aT A k).2.1 n0).2.2.2.1 ≤ 2 ∧ (((aT A k).2.1 n0).1 = 2 → ((aT A k).2.1 n0).2.2.2.2 ≤ 2)))) ∧ ∀ j, j < n0 → ¬ (j < (aT A k).2.2.2.1 ∧ (¬ ((aT A k).2.1 j).1 = 1 ∧ ¬ (((aT A k).2.1 j).2.2.2.1 ≤ 2 ∧ (((aT A k).2.1 j).1 = 2 → ((aT A k).2.1 j).2.2.2.2 ≤ 2)))) := by
              refine pk_least _ (Classical.byContradiction fun q => hE (e2.mpr (fun m' hm' hk' => Classical.byContradiction fun r => q ⟨m', hm', hk', r⟩)))
            refine qP.of (L := [_, _, _, _, _, _, _, _]) (by omega) (hP _ rfl) ms_Model_breach rfl ?_
            show qW X PR (d - 1) (some .int) cd_Model_breach 0 _ _ _ _
            have look : ∀ (c n : Nat) (L6 L7 : Option Value), n + c = n0 → qW X PR (d - 1) (some .int) cd_Model_breach 5 [some (.ref (163)), some (.int (nI k)), some (.int (nI law)), some (.int (nI z)), some (.int (g)), some (.int (nI n)), L6, L7] [] (uF s 163 0 0) Q := by
              intro c
              induction c with
              | zero =>
                intro n L6 L7 hn
                have e : n = n0 := by omega
                subst e
                obtain ⟨u1, u2, u3, u4⟩ := t5 n hn0
                obtain ⟨v1, v2, v3, v4⟩ := t4 n hn0
                obtain ⟨b1, b2⟩ := hbad
                have x3 := u3 True.intro
                have v0 : ((aT A k).2.1 n).2.2.2.1 < 7 := by
                  rcases (show ((aT A k).2.1 n).1 = 0 ∨ ((aT A k).2.1 n).1 = 2 by omega) with q | q
                  · exact v2 q
                  · exact (v4 q).1
                by_cases hx : 2 < ((aT A k).2.1 n).2.2.2.1
                · refine qW.blk rfl ?_
                  refine qv_iload rfl ?_
                  refine qv_aload rfl ?_
                  refine qv_gr ly_163 ⟨rfl, rfl, rfl⟩ (by omega) ?_
                  refine qv_iload rfl ?_
                  refine qv_ia ly_166 rfl (by omega) (by decide) (t1) ?_
                  refine qv_icmp_geNf rfl rfl (by omega) (by omega) (by omega) (nx := 6) rfl ?_
                  refine qW.blk rfl ?_
                  refine qv_aload rfl ?_
                  refine qv_gr ly_163 ⟨rfl, rfl, rfl⟩ (by omega) ?_
                  refine qv_iconst (v := 100) rfl ?_
                  refine qv_iload rfl ?_
                  refine qv_imulN (p := 100) rfl rfl ?_
                  refine qv_iload rfl ?_
                  refine qv_iaddN rfl rfl ?_
                  refine qv_ia ly_168 rfl (by omega) (by decide) (u1) ?_
                  refine qv_istore (L' := [_, _, _, _, _, _, _, _]) rfl ?_
                  refine qv_iload rfl ?_
                  refine qv_iconst (v := 1) rfl ?_
                  refine qv_icmp_eqNf (q := 1) rfl rfl (by omega) (by omega) (by omega) (nx := 7) rfl ?_
                  refine qW.blk rfl ?_
                  refine qv_aload rfl ?_
                  refine qv_gr ly_163 ⟨rfl, rfl, rfl⟩ (by omega) ?_
                  refine qv_iconst (v := 100) rfl ?_
                  refine qv_iload rfl ?_
                  refine qv_imulN (p := 100) rfl rfl ?_
                  refine qv_iload rfl ?_
                  refine qv_iaddN rfl rfl ?_
                  refine qv_ia ly_171 rfl (by omega) (by decide) (x3) ?_
                  refine qv_iconst (v := 2) rfl ?_
                  refine qv_icmp_gtNt (q := 2) rfl rfl (by omega) (by omega) (by omega) (tgt := 10) rfl ?_
                  refine qW.blk rfl ?_
                  refine qv_iconst (v := (-3)) rfl ?_
                  refine qv_iret (rfl) ?_
                  exact fin
                · have hq2 : ((aT A k).2.1 n).1 = 2 := Classical.byContradiction fun q => b2 ⟨by omega, fun z => absurd z q⟩
                  have hy : ¬ ((aT A k).2.1 n).2.2.2.2 ≤ 2 := fun q => b2 ⟨by omega, fun _ => q⟩
                  have x4 := u4 hq2
                  have v5 := (v4 hq2).2
                  refine qW.blk rfl ?_
                  refine qv_iload rfl ?_
                  refine qv_aload rfl ?_
                  refine qv_gr ly_163 ⟨rfl, rfl, rfl⟩ (by omega) ?_
                  refine qv_iload rfl ?_
                  refine qv_ia ly_166 rfl (by omega) (by decide) (t1) ?_
                  refine qv_icmp_geNf rfl rfl (by omega) (by omega) (by omega) (nx := 6) rfl ?_
                  refine qW.blk rfl ?_
                  refine qv_aload rfl ?_
                  refine qv_gr ly_163 ⟨rfl, rfl, rfl⟩ (by omega) ?_
                  refine qv_iconst (v := 100) rfl ?_
                  refine qv_iload rfl ?_
                  refine qv_imulN (p := 100) rfl rfl ?_
                  refine qv_iload rfl ?_
                  refine qv_iaddN rfl rfl ?_
                  refine qv_ia ly_168 rfl (by omega) (by decide) (u1) ?_
                  refine qv_istore (L' := [_, _, _, _, _, _, _, _]) rfl ?_
                  refine qv_iload rfl ?_
                  refine qv_iconst (v := 1) rfl ?_
                  refine qv_icmp_eqNf (q := 1) rfl rfl (by omega) (by omega) (by omega) (nx := 7) rfl ?_
                  refine qW.blk rfl ?_
                  refine qv_aload rfl ?_
                  refine qv_gr ly_163 ⟨rfl, rfl, rfl⟩ (by omega) ?_
                  refine qv_iconst (v := 100) rfl ?_
                  refine qv_iload rfl ?_
                  refine qv_imulN (p := 100) rfl rfl ?_
                  refine qv_iload rfl ?_
                  refine qv_iaddN rfl rfl ?_
                  refine qv_ia ly_171 rfl (by omega) (by decide) (x3) ?_
                  refine qv_iconst (v := 2) rfl ?_
                  refine qv_icmp_gtNf (q := 2) rfl rfl (by omega) (by omega) (by omega) (nx := 8) rfl ?_
                  refine qW.blk rfl ?_
                  refine qv_iload rfl ?_
                  refine qv_iconst (v := 2) rfl ?_
                  refine qv_icmp_neNf (q := 2) rfl rfl (by omega) (by omega) (by omega) (nx := 9) rfl ?_
                  refine qW.blk rfl ?_
                  refine qv_aload rfl ?_
                  refine qv_gr ly_163 ⟨rfl, rfl, rfl⟩ (by omega) ?_
                  refine qv_iconst (v := 100) rfl ?_
                  refine qv_iload rfl ?_
                  refine qv_imulN (p := 100) rfl rfl ?_
                  refine qv_iload rfl ?_
                  refine qv_iaddN rfl rfl ?_
                  refine qv_ia ly_172 rfl (by omega) (by decide) (x4) ?_
                  refine qv_iconst (v := 2) rfl ?_
                  refine qv_icmp_leNf (q := 2) rfl rfl (by omega) (by omega) (by omega) (nx := 10) rfl ?_
                  refine qW.blk rfl ?_
                  refine qv_iconst (v := (-3)) rfl ?_
                  refine qv_iret (rfl) ?_
                  exact fin
              | succ c ih =>
                intro n L6 L7 hn
                have hnK : n < (aT A k).2.2.2.1 := by omega
                have hgood := hleast n (by omega)
                obtain ⟨u1, u2, u3, u4⟩ := t5 n hnK
                have hk2 := (t4 n hnK).1
                by_cases hq : ((aT A k).2.1 n).1 = 1
                · refine qW.blk rfl ?_
                  refine qv_iload rfl ?_
                  refine qv_aload rfl ?_
                  refine qv_gr ly_163 ⟨rfl, rfl, rfl⟩ (by omega) ?_
                  refine qv_iload rfl ?_
                  refine qv_ia ly_166 rfl (by omega) (by decide) (t1) ?_
                  refine qv_icmp_geNf rfl rfl (by omega) (by omega) (by omega) (nx := 6) rfl ?_
                  refine qW.blk rfl ?_
                  refine qv_aload rfl ?_
                  refine qv_gr ly_163 ⟨rfl, rfl, rfl⟩ (by omega) ?_
                  refine qv_iconst (v := 100) rfl ?_
                  refine qv_iload rfl ?_
                  refine qv_imulN (p := 100) rfl rfl ?_
                  refine qv_iload rfl ?_
                  refine qv_iaddN rfl rfl ?_
                  refine qv_ia ly_168 rfl (by omega) (by decide) (u1) ?_
                  refine qv_istore (L' := [_, _, _, _, _, _, _, _]) rfl ?_
                  refine qv_iload rfl ?_
                  refine qv_iconst (v := 1) rfl ?_
                  refine qv_icmp_eqNt (q := 1) rfl rfl (by omega) (by omega) (by omega) (tgt := 11) rfl ?_
                  refine qW.blk rfl ?_
                  refine qv_iinc (L' := [_, _, _, _, _, _, _, _]) rfl (nI_succ _).symm rfl ?_
                  refine qv_goto (tgt := 5) rfl ?_
                  exact ih (n + 1) _ _ (by omega)
                · obtain ⟨x1, x2⟩ := Classical.byContradiction fun q => hgood ⟨hnK, hq, q⟩
                  have x3 := u3 True.intro
                  by_cases hq2 : ((aT A k).2.1 n).1 = 2
                  · have x4 := u4 hq2
                    have x5 := x2 hq2
                    refine qW.blk rfl ?_
                    refine qv_iload rfl ?_
                    refine qv_aload rfl ?_
                    refine qv_gr ly_163 ⟨rfl, rfl, rfl⟩ (by omega) ?_
                    refine qv_iload rfl ?_
                    refine qv_ia ly_166 rfl (by omega) (by decide) (t1) ?_
                    refine qv_icmp_geNf rfl rfl (by omega) (by omega) (by omega) (nx := 6) rfl ?_
                    refine qW.blk rfl ?_
                    refine qv_aload rfl ?_
                    refine qv_gr ly_163 ⟨rfl, rfl, rfl⟩ (by omega) ?_
                    refine qv_iconst (v := 100) rfl ?_
                    refine qv_iload rfl ?_
                    refine qv_imulN (p := 100) rfl rfl ?_
                    refine qv_iload rfl ?_
                    refine qv_iaddN rfl rfl ?_
                    refine qv_ia ly_168 rfl (by omega) (by decide) (u1) ?_
                    refine qv_istore (L' := [_, _, _, _, _, _, _, _]) rfl ?_
                    refine qv_iload rfl ?_
                    refine qv_iconst (v := 1) rfl ?_
                    refine qv_icmp_eqNf (q := 1) rfl rfl (by omega) (by omega) (by omega) (nx := 7) rfl ?_
                    refine qW.blk rfl ?_
                    refine qv_aload rfl ?_
                    refine qv_gr ly_163 ⟨rfl, rfl, rfl⟩ (by omega) ?_
                    refine qv_iconst (v := 100) rfl ?_
                    refine qv_iload rfl ?_
                    refine qv_imulN (p := 100) rfl rfl ?_
                    refine qv_iload rfl ?_
                    refine qv_iaddN rfl rfl ?_
                    refine qv_ia ly_171 rfl (by omega) (by decide) (x3) ?_
                    refine qv_iconst (v := 2) rfl ?_
                    refine qv_icmp_gtNf (q := 2) rfl rfl (by omega) (by omega) (by omega) (nx := 8) rfl ?_
                    refine qW.blk rfl ?_
                    refine qv_iload rfl ?_
                    refine qv_iconst (v := 2) rfl ?_
                    refine qv_icmp_neNf (q := 2) rfl rfl (by omega) (by omega) (by omega) (nx := 9) rfl ?_
                    refine qW.blk rfl ?_
                    refine qv_aload rfl ?_
                    refine qv_gr ly_163 ⟨rfl, rfl, rfl⟩ (by omega) ?_
                    refine qv_iconst (v := 100) rfl ?_
                    refine qv_iload rfl ?_
                    refine qv_imulN (p := 100) rfl rfl ?_
                    refine qv_iload rfl ?_
                    refine qv_iaddN rfl rfl ?_
                    refine qv_ia ly_172 rfl (by omega) (by decide) (x4) ?_
                    refine qv_iconst (v := 2) rfl ?_
                    refine qv_icmp_leNt (q := 2) rfl rfl (by omega) (by omega) (by omega) (tgt := 11) rfl ?_
                    refine qW.blk rfl ?_
                    refine qv_iinc (L' := [_, _, _, _, _, _, _, _]) rfl (nI_succ _).symm rfl ?_
                    refine qv_goto (tgt := 5) rfl ?_
                    exact ih (n + 1) _ _ (by omega)
                  · refine qW.blk rfl ?_
                    refine qv_iload rfl ?_
                    refine qv_aload rfl ?_
                    refine qv_gr ly_163 ⟨rfl, rfl, rfl⟩ (by omega) ?_
                    refine qv_iload rfl ?_
                    refine qv_ia ly_166 rfl (by omega) (by decide) (t1) ?_
                    refine qv_icmp_geNf rfl rfl (by omega) (by omega) (by omega) (nx := 6) rfl ?_
                    refine qW.blk rfl ?_
                    refine qv_aload rfl ?_
                    refine qv_gr ly_163 ⟨rfl, rfl, rfl⟩ (by omega) ?_
                    refine qv_iconst (v := 100) rfl ?_
                    refine qv_iload rfl ?_
                    refine qv_imulN (p := 100) rfl rfl ?_
                    refine qv_iload rfl ?_
                    refine qv_iaddN rfl rfl ?_
                    refine qv_ia ly_168 rfl (by omega) (by decide) (u1) ?_
                    refine qv_istore (L' := [_, _, _, _, _, _, _, _]) rfl ?_
                    refine qv_iload rfl ?_
                    refine qv_iconst (v := 1) rfl ?_
                    refine qv_icmp_eqNf (q := 1) rfl rfl (by omega) (by omega) (by omega) (nx := 7) rfl ?_
                    refine qW.blk rfl ?_
                    refine qv_aload rfl ?_
                    refine qv_gr ly_163 ⟨rfl, rfl, rfl⟩ (by omega) ?_
                    refine qv_iconst (v := 100) rfl ?_
                    refine qv_iload rfl ?_
                    refine qv_imulN (p := 100) rfl rfl ?_
                    refine qv_iload rfl ?_
                    refine qv_iaddN rfl rfl ?_
                    refine qv_ia ly_171 rfl (by omega) (by decide) (x3) ?_
                    refine qv_iconst (v := 2) rfl ?_
                    refine qv_icmp_gtNf (q := 2) rfl rfl (by omega) (by omega) (by omega) (nx := 8) rfl ?_
                    refine qW.blk rfl ?_
                    refine qv_iload rfl ?_
                    refine qv_iconst (v := 2) rfl ?_
                    refine qv_icmp_neNt (q := 2) rfl rfl (by omega) (by omega) (by omega) (tgt := 11) rfl ?_
                    refine qW.blk rfl ?_
                    refine qv_iinc (L' := [_, _, _, _, _, _, _, _]) rfl (nI_succ _).symm rfl ?_
                    refine qv_goto (tgt := 5) rfl ?_
                    exact ih (n + 1) _ _ (by omega)
            refine qW.blk rfl ?_
            refine qv_aload rfl ?_
            refine qv_iconst (v := 0) rfl ?_
            refine qv_pi ly_163 ⟨rfl, rfl, rfl⟩ (rfl) ?_
            refine qv_aload rfl ?_
            refine qv_iload rfl ?_
            refine qv_virtE (ly_163.rcv _) sg_Model_isTree rfl rfl (r_M_isTree hP (by omega) (nI k) (J1.1 3 (by decide))) ?_
            refine qv_if_eq_f (bI_ne.mpr (it)) (nx := 1) rfl ?_
            refine qW.blk rfl ?_
            refine qv_iload rfl ?_
            refine qv_iconst (v := 0) rfl ?_
            refine qv_iconst (v := 2) rfl ?_
            refine qv_staticE sg_Model_in rfl (r_Model_in hP (by omega) (nI law) (nI 0) (nI 2) _) ?_
            refine qv_if_eq_f (bI_ne.mpr (iw)) (nx := 2) rfl ?_
            refine qW.blk rfl ?_
            refine qv_iload rfl ?_
            refine qv_iconst (v := 1) rfl ?_
            refine qv_iconst (v := 3) rfl ?_
            refine qv_staticE sg_Model_in rfl (r_Model_in hP (by omega) (nI z) (nI 1) (nI 3) _) ?_
            refine qv_if_ne_t (bI_ne.mpr (hm)) (tgt := 4) rfl ?_
            refine qW.blk rfl ?_
            refine qv_iconst (v := 0) rfl ?_
            refine qv_istore (L' := [_, _, _, _, _, _, _, _]) rfl ?_
            refine qv_nil (nx := 5) rfl ?_
            exact look _ 0 _ _ (Nat.zero_add _)
      · refine ⟨.int (-1), A, hA, ?_, ?_⟩
        · intro s Q hJ hk
          obtain ⟨T, hT1, hT2⟩ := hJ.2.2.2.1 k hk3
          refine qP.of (L := [_, _, _, _, _, _]) (by omega) (hP _ rfl) ms_Desk_breach rfl ?_
          show qW X PR (d - 1) (some .int) cd_Desk_breach 0 _ _ _ _
          refine qW.blk rfl ?_
          refine qv_aload rfl ?_
          refine qv_gr ly_8 ⟨rfl, rfl, rfl⟩ (by omega) ?_
          refine qv_iload rfl ?_
          refine qv_virtE (ly_9.rcv _) sg_Chamber_treeAt rfl rfl (r_treeAt_y hP (by omega) hJ.1.2.2.2.1 h12 hk3 hT1) ?_
          refine qv_astore (L' := [_, _, _, _, _, _]) rfl ?_
          refine qv_aload rfl ?_
          refine qv_null_f (nx := 1) rfl ?_
          refine qW.blk rfl ?_
          refine qv_iload rfl ?_
          refine qv_iconst (v := 0) rfl ?_
          refine qv_iconst (v := 2) rfl ?_
          refine qv_staticE sg_Desk_within rfl (r_Desk_within hP (by omega) (nI law) (nI 0) (nI 2) _) ?_
          refine qv_if_eq_f (bI_ne.mpr (iw)) (nx := 2) rfl ?_
          refine qW.blk rfl ?_
          refine qv_iload rfl ?_
          refine qv_iconst (v := 1) rfl ?_
          refine qv_iconst (v := 3) rfl ?_
          refine qv_staticE sg_Desk_within rfl (r_Desk_within hP (by omega) m (nI 1) (nI 3) _) ?_
          refine qv_if_ne_f (fun zq => zq (bI_f (hm))) (nx := 3) rfl ?_
          refine qW.blk rfl ?_
          refine qv_iconst (v := (-1)) rfl ?_
          refine qv_iret (rfl) ?_
          exact hk s hJ (cfr.rf s)
        · intro s Q hJ hk
          have J1 := hJ.thr (v := 0)
          refine qP.of (L := [_, _, _, _, _, _, _, _]) (by omega) (hP _ rfl) ms_Model_breach rfl ?_
          show qW X PR (d - 1) (some .int) cd_Model_breach 0 _ _ _ _
          refine qW.blk rfl ?_
          refine qv_aload rfl ?_
          refine qv_iconst (v := 0) rfl ?_
          refine qv_pi ly_163 ⟨rfl, rfl, rfl⟩ (rfl) ?_
          refine qv_aload rfl ?_
          refine qv_iload rfl ?_
          refine qv_virtE (ly_163.rcv _) sg_Model_isTree rfl rfl (r_M_isTree hP (by omega) (nI k) (J1.1 3 (by decide))) ?_
          refine qv_if_eq_f (bI_ne.mpr (it)) (nx := 1) rfl ?_
          refine qW.blk rfl ?_
          refine qv_iload rfl ?_
          refine qv_iconst (v := 0) rfl ?_
          refine qv_iconst (v := 2) rfl ?_
          refine qv_staticE sg_Model_in rfl (r_Model_in hP (by omega) (nI law) (nI 0) (nI 2) _) ?_
          refine qv_if_eq_f (bI_ne.mpr (iw)) (nx := 2) rfl ?_
          refine qW.blk rfl ?_
          refine qv_iload rfl ?_
          refine qv_iconst (v := 1) rfl ?_
          refine qv_iconst (v := 3) rfl ?_
          refine qv_staticE sg_Model_in rfl (r_Model_in hP (by omega) m (nI 1) (nI 3) _) ?_
          refine qv_if_ne_f (fun zq => zq (bI_f (hm))) (nx := 3) rfl ?_
          refine qW.blk rfl ?_
          refine qv_iconst (v := (-1)) rfl ?_
          refine qv_iret (rfl) ?_
          exact hk (uF s 163 0 0) J1 ((qfr.rf s).uF (by omega))
    · have hw' : ¬ (0 ≤ w ∧ w ≤ nI 2) := fun z => hw ((in_nI (n := 2) (by omega)).mp z)
      refine ⟨.int (-1), A, hA, ?_, ?_⟩
      · intro s Q hJ hk
        obtain ⟨T, hT1, hT2⟩ := hJ.2.2.2.1 k hk3
        refine qP.of (L := [_, _, _, _, _, _]) (by omega) (hP _ rfl) ms_Desk_breach rfl ?_
        show qW X PR (d - 1) (some .int) cd_Desk_breach 0 _ _ _ _
        refine qW.blk rfl ?_
        refine qv_aload rfl ?_
        refine qv_gr ly_8 ⟨rfl, rfl, rfl⟩ (by omega) ?_
        refine qv_iload rfl ?_
        refine qv_virtE (ly_9.rcv _) sg_Chamber_treeAt rfl rfl (r_treeAt_y hP (by omega) hJ.1.2.2.2.1 h12 hk3 hT1) ?_
        refine qv_astore (L' := [_, _, _, _, _, _]) rfl ?_
        refine qv_aload rfl ?_
        refine qv_null_f (nx := 1) rfl ?_
        refine qW.blk rfl ?_
        refine qv_iload rfl ?_
        refine qv_iconst (v := 0) rfl ?_
        refine qv_iconst (v := 2) rfl ?_
        refine qv_staticE sg_Desk_within rfl (r_Desk_within hP (by omega) w 0 (nI 2) _) ?_
        refine qv_if_eq_t (bI_f (hw')) (tgt := 3) rfl ?_
        refine qW.blk rfl ?_
        refine qv_iconst (v := (-1)) rfl ?_
        refine qv_iret (rfl) ?_
        exact hk s hJ (cfr.rf s)
      · intro s Q hJ hk
        have J1 := hJ.thr (v := 0)
        refine qP.of (L := [_, _, _, _, _, _, _, _]) (by omega) (hP _ rfl) ms_Model_breach rfl ?_
        show qW X PR (d - 1) (some .int) cd_Model_breach 0 _ _ _ _
        refine qW.blk rfl ?_
        refine qv_aload rfl ?_
        refine qv_iconst (v := 0) rfl ?_
        refine qv_pi ly_163 ⟨rfl, rfl, rfl⟩ (rfl) ?_
        refine qv_aload rfl ?_
        refine qv_iload rfl ?_
        refine qv_virtE (ly_163.rcv _) sg_Model_isTree rfl rfl (r_M_isTree hP (by omega) (nI k) (J1.1 3 (by decide))) ?_
        refine qv_if_eq_f (bI_ne.mpr (it)) (nx := 1) rfl ?_
        refine qW.blk rfl ?_
        refine qv_iload rfl ?_
        refine qv_iconst (v := 0) rfl ?_
        refine qv_iconst (v := 2) rfl ?_
        refine qv_staticE sg_Model_in rfl (r_Model_in hP (by omega) w 0 (nI 2) _) ?_
        refine qv_if_eq_t (bI_f (hw')) (tgt := 3) rfl ?_
        refine qW.blk rfl ?_
        refine qv_iconst (v := (-1)) rfl ?_
        refine qv_iret (rfl) ?_
        exact hk (uF s 163 0 0) J1 ((qfr.rf s).uF (by omega))
  · have ht : ¬ (0 ≤ t ∧ t ≤ nI (aC A 3) - 1) := fun z => hn ((in_nI1 (by omega)).mp z)
    refine ⟨.int (-1), A, hA, ?_, ?_⟩
    · intro s Q hJ hk
      refine qP.of (L := [_, _, _, _, _, _]) (by omega) (hP _ rfl) ms_Desk_breach rfl ?_
      show qW X PR (d - 1) (some .int) cd_Desk_breach 0 _ _ _ _
      refine qW.blk rfl ?_
      refine qv_aload rfl ?_
      refine qv_gr ly_8 ⟨rfl, rfl, rfl⟩ (by omega) ?_
      refine qv_iload rfl ?_
      refine qv_virtE (ly_9.rcv _) sg_Chamber_treeAt rfl rfl (r_treeAt_n hP (by omega) hJ.1.2.2.2.1 h12 hn) ?_
      refine qv_astoreN (L' := [_, _, _, _, _, _]) rfl ?_
      refine qv_aloadN rfl ?_
      refine qv_null_t (tgt := 3) rfl ?_
      refine qW.blk rfl ?_
      refine qv_iconst (v := (-1)) rfl ?_
      refine qv_iret (rfl) ?_
      exact hk s hJ (cfr.rf s)
    · intro s Q hJ hk
      have J1 := hJ.thr (v := 0)
      refine qP.of (L := [_, _, _, _, _, _, _, _]) (by omega) (hP _ rfl) ms_Model_breach rfl ?_
      show qW X PR (d - 1) (some .int) cd_Model_breach 0 _ _ _ _
      refine qW.blk rfl ?_
      refine qv_aload rfl ?_
      refine qv_iconst (v := 0) rfl ?_
      refine qv_pi ly_163 ⟨rfl, rfl, rfl⟩ (rfl) ?_
      refine qv_aload rfl ?_
      refine qv_iload rfl ?_
      refine qv_virtE (ly_163.rcv _) sg_Model_isTree rfl rfl (r_M_isTree hP (by omega) t (J1.1 3 (by decide))) ?_
      refine qv_if_eq_t (bI_f (ht)) (tgt := 3) rfl ?_
      refine qW.blk rfl ?_
      refine qv_iconst (v := (-1)) rfl ?_
      refine qv_iret (rfl) ?_
      exact hk (uF s 163 0 0) J1 ((qfr.rf s).uF (by omega))
end
