/-! order is alike, the rest -/
section
variable {X : pm_X} {PR : pm_P}
theorem w_M_lacks_no (hP : pm_np PR) {d : Nat} (hd : 2 ≤ d) {s : QST} {Q : QPost} {b : Int32} (hnb : ¬ ∃ m, m < 8 ∧ b = nI m) (hk : Q (some (.int (-1))) s) : qP X PR d 178 [.ref 163, .int b] s Q := by
  refine qP.of (L := [_, _]) (by omega) (hP _ rfl) ms_Model_lacks rfl ?_
  show qW X PR (d - 1) (some .int) cd_Model_lacks 0 _ _ _ _
  refine qW.blk rfl ?_
  refine qv_iload rfl ?_
  refine qv_iconst (v := 0) rfl ?_
  refine qv_iconst (v := 7) rfl ?_
  refine qv_staticE sg_Model_in rfl (r_Model_in hP (by omega) b 0 (nI 7) _) ?_
  refine qv_if_ne_f (fun zq => zq (bI_f (not7 hnb))) (nx := 1) rfl ?_
  refine qW.blk rfl ?_
  refine qv_iconst (v := (-1)) rfl ?_
  refine qv_iret (rfl) ?_
  exact hk
theorem Sim_order (hP : pm_np PR) (b g : Int32) : Sim X PR 133 217 [.int b, .int g] := by
  intro d A hd hA
  have hC := hA.1
  have hM := hC.2.2.2.1
  have hn1 := hC.1
  have hn7 := hC.2.1
  rcases pl_of b 8 with ⟨l, hl8, rfl⟩ | hnb
  · obtain ⟨s1, s2, s3, s4, -⟩ := hA.2.2.2.2 l hl8
    by_cases hr : refB (aS A l).1 (aS A l).2.1 = 0
    · have h2 := refB_0 hr
      have hrow := lrow_or (aC A 0) (aS A l).2.2.2.1 (aS A l).2.2.1
      by_cases hgood : 2 ≤ (aS A l).2.2.1 ∧ (aS A l).2.2.1 ≤ 7 ∧ ∃ r, lrow (aC A 0) (aS A l).2.2.2.1 r (aS A l).2.2.1
      · obtain ⟨z2, z7, r, hlr⟩ := hgood
        have zn := pig _ _ r hlr.1.1 hlr.1.2
        refine ⟨.int (nI (cmo (cvw (aC A)) (aC A 0) r (aS A l).2.2.1 (if g = 0 then 0 else 1))), A, hA, ?_, ?_⟩
        · intro s Q hJ hk
          obtain ⟨c1, c2, -⟩ := hJ.2.2.2.2 l hl8
          obtain ⟨c3, c4, c5⟩ := c2 h2
          refine qP.of (L := [_, _, _, _, _]) (by omega) (hP _ rfl) ms_Desk_order rfl ?_
          show qW X PR (d - 1) (some .int) cd_Desk_order 0 _ _ _ _
          refine qW.blk rfl ?_
          refine qv_aload rfl ?_
          refine qv_iload rfl ?_
          refine qv_virtE (ly_8.rcv _) sg_Desk_shelfAt rfl rfl (r_shelfAt_y hP (by omega) hl8) ?_
          refine qv_astore (L' := [_, _, _, _, _]) rfl ?_
          refine qv_aload rfl ?_
          refine qv_iconst (v := 3) rfl ?_
          refine qv_staticE sg_Desk_refusalOf rfl (r_bytesRefusal hP (by omega) hl8 c1 s1 (fun _ => c3) s2) ?_
          refine qv_istore (L' := [_, _, _, _, _]) rfl ?_
          refine qv_aload rfl ?_
          refine qv_null_f (nx := 1) rfl ?_
          refine qW.blk rfl ?_
          refine qv_iload rfl ?_
          refine qv_if_eq_t (hr) (tgt := 3) rfl ?_
          refine qW.blk rfl ?_
          refine qv_aload rfl ?_
          refine qv_virt (ly_8.rcv _) sg_Desk_weighOrders rfl rfl (w_weighOrders hP (by omega) hJ.1 hC (fun t1 F1 g1 => ?_)) 
          refine qv_aload rfl ?_
          refine qv_gr ly_8 ⟨rfl, rfl, rfl⟩ (by omega) ?_
          refine qv_aload rfl ?_
          refine qv_gr (ly_sh (d := l) (by omega)) ⟨rfl, rfl, rfl⟩ (by omega) ?_
          refine qv_aload rfl ?_
          refine qv_gi (ly_sh (d := l) (by omega)) ⟨rfl, rfl, rfl⟩ ((F1.f (by omega)).trans c4) ?_
          refine qv_virt (ly_111.rcv _) sg_Orders_lineUp rfl rfl (w_lineUp hP (by omega) g1.1 hn7 (ly_shc hl8) (by omega) (fun j hj => (F1.e (by omega)).trans (c5 j hj)) z2 zn hlr (fun t2 F2 h2' => ?_)) 
          refine qv_if_ne_t (by decide) (tgt := 5) rfl ?_
          refine qW.blk rfl ?_
          refine qv_aload rfl ?_
          refine qv_gr ly_8 ⟨rfl, rfl, rfl⟩ (by omega) ?_
          refine qv_aload rfl ?_
          refine qv_gi (ly_sh (d := l) (by omega)) ⟨rfl, rfl, rfl⟩ ((F2.f (by omega)).trans ((F1.f (by omega)).trans c4)) ?_
          refine qv_iload rfl ?_
          refine qv_virt (ly_111.rcv _) sg_Orders_comesOf rfl rfl (w_comesOf hP (by omega) (W := cvw (aC A)) ⟨(F2.f (by omega)).trans g1.1, (F2.f (by omega)).trans g1.2.1, fun x hx => (F2.e (by omega)).trans (g1.2.2 x hx)⟩ hn7 hlr.1.1 z2 z7 h2' g ?_) 
          refine qv_iret (rfl) ?_
          have F : qfr 74 113 s t2 := (F1.mono (by omega) (by omega)).trans (F2.mono (by omega) (by omega))
          exact hk t2 (hJ.fr hA F (by omega)) (F.c (by omega) (by omega))
        · intro s Q hJ hk
          have J1 := hJ.thr (v := 0)
          have rv := rview_neu J1.1 hC J1.2.2.2.2.2
          obtain ⟨c1, c2, -⟩ := J1.2.2.2.2.1 l hl8
          obtain ⟨c3, c4, c5⟩ := c2 h2
          have hr0 : refB (aS A l).1 (aS A l).2.1 = nI 0 := hr
          have e200 : ∀ s1, rfr (uF s 163 0 0) s1 → qE s1 200 l = nI (aS A l).2.2.1 := fun s1 F1 => by rw [F1.2.1 200 (by omega)]; exact c4
          refine qP.of (L := [_, _, _, _, _, _, _]) (by omega) (hP _ rfl) ms_Model_order rfl ?_
          show qW X PR (d - 1) (some .int) cd_Model_order 0 _ _ _ _
          have loop : ∀ (c i : Nat) (s1 : QST) (L6 : Option Value), i + c = (aS A l).2.2.1 → rfr (uF s 163 0 0) s1 → (∀ j, j < i → qE s1 191 j = nI (r j)) → qW X PR (d - 1) (some .int) cd_Model_order 5 [some (.ref (163)), some (.int (nI l)), some (.int (g)), some (.int 0), some (.int (nI (met r i))), some (.int (nI i)), L6] [] s1 Q := by
            intro c
            induction c with
            | zero =>
              intro i s1 L6 hi F1 h1
              have e : i = (aS A l).2.2.1 := by omega
              have F2 := F1.sF (k := 45) (v := nI (aS A l).2.2.1) (by omega)
              have J2 := J1.fr F2
              refine qW.blk rfl ?_
              refine qv_iload rfl ?_
              refine qv_aload rfl ?_
              refine qv_gr ly_163 ⟨rfl, rfl, rfl⟩ (by omega) ?_
              refine qv_iload rfl ?_
              refine qv_ia ly_200 rfl (by omega) (by decide) (e200 s1 F1) ?_
              refine qv_icmp_geNt rfl rfl (by omega) (by omega) (by omega) (tgt := 10) rfl ?_
              refine qW.blk rfl ?_
              refine qv_aload rfl ?_
              refine qv_aload rfl ?_
              refine qv_gr ly_163 ⟨rfl, rfl, rfl⟩ (by omega) ?_
              refine qv_iload rfl ?_
              refine qv_ia ly_200 rfl (by omega) (by decide) (e200 s1 F1) ?_
              refine qv_pi ly_163 ⟨rfl, rfl, rfl⟩ (rfl) ?_
              refine qv_aload rfl ?_
              refine qv_iload rfl ?_
              refine qv_virt (ly_163.rcv _) sg_Model_orderEnds rfl rfl (w_orderEnds hP (by omega) (rview_neu J2.1 hC J2.2.2.2.2.2) (cvw_ok5 hC) hn7 hlr.1 (by omega) z7 qF_uFs (fun j hj => h1 j (by omega)) g (fun s3 F3 => ?_)) 
              refine qv_iret (rfl) ?_
              have F := F2.sQ F3 (by omega)
              exact hk s3 (J1.fr F) (((qfr.rf s).uF (by omega)).trans F.1)
            | succ c ih =>
              intro i s1 L6 hi F1 h1
              obtain ⟨m1, m2⟩ := met_btn (n := aC A 0) (l := r) hn7 i (fun j hj => hlr.1.1 j (by omega))
              have hli := hlr.1.1 i (by omega)
              have el : qL s1 201 (120 * l + i) = ((aS A l).2.2.2.1 i).toInt64 := by rw [F1.2.2.1]; exact c5 i (by omega)
              have ef : (((aS A l).2.2.2.1 i).toInt64).toInt32 = nI (r i) := (l2i_i2l _).trans (hlr.2 i (by omega))
              have nb : ¬ btn (met r i) (r i) := fun q => by
                obtain ⟨j, q1, q2⟩ := (m2 _).mp q
                exact hlr.1.2 j i q1 (by omega) q2
              refine qW.blk rfl ?_
              refine qv_iload rfl ?_
              refine qv_aload rfl ?_
              refine qv_gr ly_163 ⟨rfl, rfl, rfl⟩ (by omega) ?_
              refine qv_iload rfl ?_
              refine qv_ia ly_200 rfl (by omega) (by decide) (e200 s1 F1) ?_
              refine qv_icmp_geNf rfl rfl (by omega) (by omega) (by omega) (nx := 6) rfl ?_
              refine qW.blk rfl ?_
              refine qv_aload rfl ?_
              refine qv_gr ly_163 ⟨rfl, rfl, rfl⟩ (by omega) ?_
              refine qv_iconst (v := 120) rfl ?_
              refine qv_iload rfl ?_
              refine qv_imulN (p := 120) rfl rfl ?_
              refine qv_iload rfl ?_
              refine qv_iaddN rfl rfl ?_
              refine qv_la ly_201 rfl (by omega) (by decide) (el) ?_
              refine qv_l2i ?_
              refine qv_top (ef) ?_
              refine qv_istore (L' := [_, _, _, _, _, _, _]) rfl ?_
              refine qv_aload rfl ?_
              refine qv_iload rfl ?_
              refine qv_virtE (ly_163.rcv _) sg_Model_isThere rfl rfl (r_M_isThere hP (by omega) (nI (r i)) ((J1.fr F1).1 0 (by decide))) ?_
              refine qv_if_eq_f (bI_ne.mpr ((in_nI1 (by omega)).mpr ⟨r i, hli, rfl⟩)) (nx := 7) rfl ?_
              refine qW.blk rfl ?_
              refine qv_iload rfl ?_
              refine qv_iload rfl ?_
              refine qv_ishr ?_
              refine qv_iconst (v := 1) rfl ?_
              refine qv_iand ?_
              refine qv_iconst (v := 1) rfl ?_
              refine qv_icmp_ne_t (fun q => nb ((bit_is (by omega) (by omega)).mp q)) (tgt := 9) rfl ?_
              refine qW.blk rfl ?_
              refine qv_iload rfl ?_
              refine qv_iconst (v := 1) rfl ?_
              refine qv_iload rfl ?_
              refine qv_ishl ?_
              refine qv_ior ?_
              refine qv_top ((or7 (by omega) m1).1) ?_
              refine qv_istore (L' := [_, _, _, _, _, _, _]) rfl ?_
              refine qv_aload rfl ?_
              refine qv_gr ly_163 ⟨rfl, rfl, rfl⟩ (by omega) ?_
              refine qv_iload rfl ?_
              refine qv_iload rfl ?_
              refine qv_is ly_191 rfl (by omega) (by decide) ?_
              refine qv_iinc (L' := [_, _, _, _, _, _, _]) rfl (nI_succ _).symm rfl ?_
              refine qv_goto (tgt := 5) rfl ?_
              refine ih (i + 1) _ _ (by omega) (F1.sE (by omega)) (fun j hj => ?_)
              by_cases e : j = i
              · subst e; rw [qE_uEs]
              · rw [qE_uEk e]; exact h1 j (by omega)
          have iz : nI 2 ≤ nI (aS A l).2.2.1 ∧ nI (aS A l).2.2.1 ≤ nI 7 := (w_iff (by omega) (by omega) (by omega)).mpr ⟨z2, z7⟩
          refine qW.blk rfl ?_
          refine qv_aload rfl ?_
          refine qv_iconst (v := 0) rfl ?_
          refine qv_pi ly_163 ⟨rfl, rfl, rfl⟩ (rfl) ?_
          refine qv_aload rfl ?_
          refine qv_iload rfl ?_
          refine qv_virt (ly_163.rcv _) sg_Model_lacks rfl rfl (w_M_lacks hP (by omega) hl8 c1 s1 (fun _ => c3) s2 ?_) 
          refine qv_istore (L' := [_, _, _, _, _, _, _]) rfl ?_
          refine qv_iload rfl ?_
          refine qv_if_ge_t (by rw [hr0]; decide) (tgt := 2) rfl ?_
          refine qW.blk rfl ?_
          refine qv_aload rfl ?_
          refine qv_gr ly_163 ⟨rfl, rfl, rfl⟩ (by omega) ?_
          refine qv_iload rfl ?_
          refine qv_ia ly_200 rfl (by omega) (by decide) (c4) ?_
          refine qv_iconst (v := 2) rfl ?_
          refine qv_iconst (v := 7) rfl ?_
          refine qv_staticE sg_Model_in rfl (r_Model_in hP (by omega) (nI (aS A l).2.2.1) (nI 2) (nI 7) _) ?_
          refine qv_if_ne_t (bI_ne.mpr (iz)) (tgt := 4) rfl ?_
          refine qW.blk rfl ?_
          refine qv_iconst (v := 0) rfl ?_
          refine qv_istore (L' := [_, _, _, _, _, _, _]) rfl ?_
          refine qv_iconst (v := 0) rfl ?_
          refine qv_istore (L' := [_, _, _, _, _, _, _]) rfl ?_
          refine qv_nil (nx := 5) rfl ?_
          rw [hr]
          exact loop _ 0 _ _ (Nat.zero_add _) (rfr.rf _) (fun j hj => absurd hj (Nat.not_lt_zero _))
      · refine ⟨.int (-13), A, hA, ?_, ?_⟩
        · intro s Q hJ hk
          obtain ⟨c1, c2, -⟩ := hJ.2.2.2.2 l hl8
          obtain ⟨c3, c4, c5⟩ := c2 h2
          have hbad : (aS A l).2.2.1 < 2 ∨ aC A 0 < (aS A l).2.2.1 ∨ ∃ i r, i < (aS A l).2.2.1 ∧ lrow (aC A 0) (aS A l).2.2.2.1 r i ∧ ((¬ ∃ k, k < aC A 0 ∧ (aS A l).2.2.2.1 i = nI k) ∨ ∃ j, j < i ∧ (aS A l).2.2.2.1 i = nI (r j)) := by
            rcases hrow with ⟨r, h⟩ | h
            · by_cases q : 2 ≤ (aS A l).2.2.1 ∧ (aS A l).2.2.1 ≤ 7
              · exact absurd ⟨q.1, q.2, r, h⟩ hgood
              · by_cases q2 : (aS A l).2.2.1 < 2
                · exact Or.inl q2
                · exact Or.inr (Or.inl (by omega))
            · exact Or.inr (Or.inr h)
          refine qP.of (L := [_, _, _, _, _]) (by omega) (hP _ rfl) ms_Desk_order rfl ?_
          show qW X PR (d - 1) (some .int) cd_Desk_order 0 _ _ _ _
          refine qW.blk rfl ?_
          refine qv_aload rfl ?_
          refine qv_iload rfl ?_
          refine qv_virtE (ly_8.rcv _) sg_Desk_shelfAt rfl rfl (r_shelfAt_y hP (by omega) hl8) ?_
          refine qv_astore (L' := [_, _, _, _, _]) rfl ?_
          refine qv_aload rfl ?_
          refine qv_iconst (v := 3) rfl ?_
          refine qv_staticE sg_Desk_refusalOf rfl (r_bytesRefusal hP (by omega) hl8 c1 s1 (fun _ => c3) s2) ?_
          refine qv_istore (L' := [_, _, _, _, _]) rfl ?_
          refine qv_aload rfl ?_
          refine qv_null_f (nx := 1) rfl ?_
          refine qW.blk rfl ?_
          refine qv_iload rfl ?_
          refine qv_if_eq_t (hr) (tgt := 3) rfl ?_
          refine qW.blk rfl ?_
          refine qv_aload rfl ?_
          refine qv_virt (ly_8.rcv _) sg_Desk_weighOrders rfl rfl (w_weighOrders hP (by omega) hJ.1 hC (fun t1 F1 g1 => ?_)) 
          refine qv_aload rfl ?_
          refine qv_gr ly_8 ⟨rfl, rfl, rfl⟩ (by omega) ?_
          refine qv_aload rfl ?_
          refine qv_gr (ly_sh (d := l) (by omega)) ⟨rfl, rfl, rfl⟩ (by omega) ?_
          refine qv_aload rfl ?_
          refine qv_gi (ly_sh (d := l) (by omega)) ⟨rfl, rfl, rfl⟩ ((F1.f (by omega)).trans c4) ?_
          refine qv_virt (ly_111.rcv _) sg_Orders_lineUp rfl rfl (w_lineUp_n hP (by omega) g1.1 hn7 (ly_shc hl8) (by omega) (fun j hj => (F1.e (by omega)).trans (c5 j hj)) s3 hbad (fun t2 F2 => ?_)) 
          refine qv_if_ne_f (fun q => q rfl) (nx := 4) rfl ?_
          refine qW.blk rfl ?_
          refine qv_iconst (v := (-13)) rfl ?_
          refine qv_iret (rfl) ?_
          have F : qfr 74 113 s t2 := (F1.mono (by omega) (by omega)).trans (F2.mono (by omega) (by omega))
          exact hk t2 (hJ.fr hA F (by omega)) (F.c (by omega) (by omega))
        · intro s Q hJ hk
          have J1 := hJ.thr (v := 0)
          obtain ⟨c1, c2, -⟩ := J1.2.2.2.2.1 l hl8
          obtain ⟨c3, c4, c5⟩ := c2 h2
          have hr0 : refB (aS A l).1 (aS A l).2.1 = nI 0 := hr
          have e200 : ∀ s1, rfr (uF s 163 0 0) s1 → qE s1 200 l = nI (aS A l).2.2.1 := fun s1 F1 => by rw [F1.2.1 200 (by omega)]; exact c4
          refine qP.of (L := [_, _, _, _, _, _, _]) (by omega) (hP _ rfl) ms_Model_order rfl ?_
          show qW X PR (d - 1) (some .int) cd_Model_order 0 _ _ _ _
          by_cases hz : 2 ≤ (aS A l).2.2.1 ∧ (aS A l).2.2.1 ≤ 7
          · have iz : nI 2 ≤ nI (aS A l).2.2.1 ∧ nI (aS A l).2.2.1 ≤ nI 7 := (w_iff (by omega) (by omega) (by omega)).mpr hz
            obtain ⟨i0, r, hi0, hlr, hb⟩ : ∃ i r, i < (aS A l).2.2.1 ∧ lrow (aC A 0) (aS A l).2.2.2.1 r i ∧ ((¬ ∃ k, k < aC A 0 ∧ (aS A l).2.2.2.1 i = nI k) ∨ ∃ j, j < i ∧ (aS A l).2.2.2.1 i = nI (r j)) := by
              rcases hrow with ⟨r, h⟩ | h
              · exact absurd ⟨hz.1, hz.2, r, h⟩ hgood
              · exact h
            have loop : ∀ (c i : Nat) (s1 : QST) (L6 : Option Value), i + c = i0 → rfr (uF s 163 0 0) s1 → qW X PR (d - 1) (some .int) cd_Model_order 5 [some (.ref (163)), some (.int (nI l)), some (.int (g)), some (.int 0), some (.int (nI (met r i))), some (.int (nI i)), L6] [] s1 Q := by
              intro c
              induction c with
              | zero =>
                intro i s1 L6 hi F1
                have e : i = i0 := by omega
                subst e
                obtain ⟨m1, m2⟩ := met_btn (n := aC A 0) (l := r) hn7 i hlr.1.1
                have el : qL s1 201 (120 * l + i) = ((aS A l).2.2.2.1 i).toInt64 := by rw [F1.2.2.1]; exact c5 i (by omega)
                have fin := hk s1 (J1.fr F1) (((qfr.rf s).uF (by omega)).trans F1.1)
                rcases hb with hb | ⟨j, hj, hb⟩
                · refine qW.blk rfl ?_
                  refine qv_iload rfl ?_
                  refine qv_aload rfl ?_
                  refine qv_gr ly_163 ⟨rfl, rfl, rfl⟩ (by omega) ?_
                  refine qv_iload rfl ?_
                  refine qv_ia ly_200 rfl (by omega) (by decide) (e200 s1 F1) ?_
                  refine qv_icmp_geNf rfl rfl (by omega) (by omega) (by omega) (nx := 6) rfl ?_
                  refine qW.blk rfl ?_
                  refine qv_aload rfl ?_
                  refine qv_gr ly_163 ⟨rfl, rfl, rfl⟩ (by omega) ?_
                  refine qv_iconst (v := 120) rfl ?_
                  refine qv_iload rfl ?_
                  refine qv_imulN (p := 120) rfl rfl ?_
                  refine qv_iload rfl ?_
                  refine qv_iaddN rfl rfl ?_
                  refine qv_la ly_201 rfl (by omega) (by decide) (el) ?_
                  refine qv_l2i ?_
                  refine qv_top (l2i_i2l _) ?_
                  refine qv_istore (L' := [_, _, _, _, _, _, _]) rfl ?_
                  refine qv_aload rfl ?_
                  refine qv_iload rfl ?_
                  refine qv_virtE (ly_163.rcv _) sg_Model_isThere rfl rfl (r_M_isThere hP (by omega) _ ((J1.fr F1).1 0 (by decide))) ?_
                  refine qv_if_eq_t (bI_f (fun q => hb ((in_nI1 (by omega)).mp q))) (tgt := 8) rfl ?_
                  refine qW.blk rfl ?_
                  refine qv_iconst (v := (-13)) rfl ?_
                  refine qv_iret (rfl) ?_
                  exact fin
                · have hlj := hlr.1.1 j hj
                  have ef : (((aS A l).2.2.2.1 i).toInt64).toInt32 = nI (r j) := (l2i_i2l _).trans hb
                  refine qW.blk rfl ?_
                  refine qv_iload rfl ?_
                  refine qv_aload rfl ?_
                  refine qv_gr ly_163 ⟨rfl, rfl, rfl⟩ (by omega) ?_
                  refine qv_iload rfl ?_
                  refine qv_ia ly_200 rfl (by omega) (by decide) (e200 s1 F1) ?_
                  refine qv_icmp_geNf rfl rfl (by omega) (by omega) (by omega) (nx := 6) rfl ?_
                  refine qW.blk rfl ?_
                  refine qv_aload rfl ?_
                  refine qv_gr ly_163 ⟨rfl, rfl, rfl⟩ (by omega) ?_
                  refine qv_iconst (v := 120) rfl ?_
                  refine qv_iload rfl ?_
                  refine qv_imulN (p := 120) rfl rfl ?_
                  refine qv_iload rfl ?_
                  refine qv_iaddN rfl rfl ?_
                  refine qv_la ly_201 rfl (by omega) (by decide) (el) ?_
                  refine qv_l2i ?_
                  refine qv_top (ef) ?_
                  refine qv_istore (L' := [_, _, _, _, _, _, _]) rfl ?_
                  refine qv_aload rfl ?_
                  refine qv_iload rfl ?_
                  refine qv_virtE (ly_163.rcv _) sg_Model_isThere rfl rfl (r_M_isThere hP (by omega) (nI (r j)) ((J1.fr F1).1 0 (by decide))) ?_
                  refine qv_if_eq_f (bI_ne.mpr ((in_nI1 (by omega)).mpr ⟨r j, hlj, rfl⟩)) (nx := 7) rfl ?_
                  refine qW.blk rfl ?_
                  refine qv_iload rfl ?_
                  refine qv_iload rfl ?_
                  refine qv_ishr ?_
                  refine qv_iconst (v := 1) rfl ?_
                  refine qv_iand ?_
                  refine qv_iconst (v := 1) rfl ?_
                  refine qv_icmp_ne_f (fun q => q ((bit_is (by omega) (by omega)).mpr ((m2 _).mpr ⟨j, hj, rfl⟩))) (nx := 8) rfl ?_
                  refine qW.blk rfl ?_
                  refine qv_iconst (v := (-13)) rfl ?_
                  refine qv_iret (rfl) ?_
                  exact fin
              | succ c ih =>
                intro i s1 L6 hi F1
                obtain ⟨m1, m2⟩ := met_btn (n := aC A 0) (l := r) hn7 i (fun j hj => hlr.1.1 j (by omega))
                have hli := hlr.1.1 i (by omega)
                have el : qL s1 201 (120 * l + i) = ((aS A l).2.2.2.1 i).toInt64 := by rw [F1.2.2.1]; exact c5 i (by omega)
                have ef : (((aS A l).2.2.2.1 i).toInt64).toInt32 = nI (r i) := (l2i_i2l _).trans (hlr.2 i (by omega))
                have nb : ¬ btn (met r i) (r i) := fun q => by
                  obtain ⟨j, q1, q2⟩ := (m2 _).mp q
                  exact hlr.1.2 j i q1 (by omega) q2
                refine qW.blk rfl ?_
                refine qv_iload rfl ?_
                refine qv_aload rfl ?_
                refine qv_gr ly_163 ⟨rfl, rfl, rfl⟩ (by omega) ?_
                refine qv_iload rfl ?_
                refine qv_ia ly_200 rfl (by omega) (by decide) (e200 s1 F1) ?_
                refine qv_icmp_geNf rfl rfl (by omega) (by omega) (by omega) (nx := 6) rfl ?_
                refine qW.blk rfl ?_
                refine qv_aload rfl ?_
                refine qv_gr ly_163 ⟨rfl, rfl, rfl⟩ (by omega) ?_
                refine qv_iconst (v := 120) rfl ?_
                refine qv_iload rfl ?_
                refine qv_imulN (p := 120) rfl rfl ?_
                refine qv_iload rfl ?_
                refine qv_iaddN rfl rfl ?_
                refine qv_la ly_201 rfl (by omega) (by decide) (el) ?_
                refine qv_l2i ?_
                refine qv_top (ef) ?_
                refine qv_istore (L' := [_, _, _, _, _, _, _]) rfl ?_
                refine qv_aload rfl ?_
                refine qv_iload rfl ?_
                refine qv_virtE (ly_163.rcv _) sg_Model_isThere rfl rfl (r_M_isThere hP (by omega) (nI (r i)) ((J1.fr F1).1 0 (by decide))) ?_
                refine qv_if_eq_f (bI_ne.mpr ((in_nI1 (by omega)).mpr ⟨r i, hli, rfl⟩)) (nx := 7) rfl ?_
                refine qW.blk rfl ?_
                refine qv_iload rfl ?_
                refine qv_iload rfl ?_
                refine qv_ishr ?_
                refine qv_iconst (v := 1) rfl ?_
                refine qv_iand ?_
                refine qv_iconst (v := 1) rfl ?_
                refine qv_icmp_ne_t (fun q => nb ((bit_is (by omega) (by omega)).mp q)) (tgt := 9) rfl ?_
                refine qW.blk rfl ?_
                refine qv_iload rfl ?_
                refine qv_iconst (v := 1) rfl ?_
                refine qv_iload rfl ?_
                refine qv_ishl ?_
                refine qv_ior ?_
                refine qv_top ((or7 (by omega) m1).1) ?_
                refine qv_istore (L' := [_, _, _, _, _, _, _]) rfl ?_
                refine qv_aload rfl ?_
                refine qv_gr ly_163 ⟨rfl, rfl, rfl⟩ (by omega) ?_
                refine qv_iload rfl ?_
                refine qv_iload rfl ?_
                refine qv_is ly_191 rfl (by omega) (by decide) ?_
                refine qv_iinc (L' := [_, _, _, _, _, _, _]) rfl (nI_succ _).symm rfl ?_
                refine qv_goto (tgt := 5) rfl ?_
                exact ih (i + 1) _ _ (by omega) (F1.sE (by omega))
            refine qW.blk rfl ?_
            refine qv_aload rfl ?_
            refine qv_iconst (v := 0) rfl ?_
            refine qv_pi ly_163 ⟨rfl, rfl, rfl⟩ (rfl) ?_
            refine qv_aload rfl ?_
            refine qv_iload rfl ?_
            refine qv_virt (ly_163.rcv _) sg_Model_lacks rfl rfl (w_M_lacks hP (by omega) hl8 c1 s1 (fun _ => c3) s2 ?_) 
            refine qv_istore (L' := [_, _, _, _, _, _, _]) rfl ?_
            refine qv_iload rfl ?_
            refine qv_if_ge_t (by rw [hr0]; decide) (tgt := 2) rfl ?_
            refine qW.blk rfl ?_
            refine qv_aload rfl ?_
            refine qv_gr ly_163 ⟨rfl, rfl, rfl⟩ (by omega) ?_
            refine qv_iload rfl ?_
            refine qv_ia ly_200 rfl (by omega) (by decide) (c4) ?_
            refine qv_iconst (v := 2) rfl ?_
            refine qv_iconst (v := 7) rfl ?_
            refine qv_staticE sg_Model_in rfl (r_Model_in hP (by omega) (nI (aS A l).2.2.1) (nI 2) (nI 7) _) ?_
            refine qv_if_ne_t (bI_ne.mpr (iz)) (tgt := 4) rfl ?_
            refine qW.blk rfl ?_
            refine qv_iconst (v := 0) rfl ?_
            refine qv_istore (L' := [_, _, _, _, _, _, _]) rfl ?_
            refine qv_iconst (v := 0) rfl ?_
            refine qv_istore (L' := [_, _, _, _, _, _, _]) rfl ?_
            refine qv_nil (nx := 5) rfl ?_
            rw [hr]
            exact loop i0 0 _ _ (Nat.zero_add _) (rfr.rf _)
          · have iz : ¬ (nI 2 ≤ nI (aS A l).2.2.1 ∧ nI (aS A l).2.2.1 ≤ nI 7) := fun q => hz ((w_iff (by omega) (by omega) (by omega)).mp q)
            refine qW.blk rfl ?_
            refine qv_aload rfl ?_
            refine qv_iconst (v := 0) rfl ?_
            refine qv_pi ly_163 ⟨rfl, rfl, rfl⟩ (rfl) ?_
            refine qv_aload rfl ?_
            refine qv_iload rfl ?_
            refine qv_virt (ly_163.rcv _) sg_Model_lacks rfl rfl (w_M_lacks hP (by omega) hl8 c1 s1 (fun _ => c3) s2 ?_) 
            refine qv_istore (L' := [_, _, _, _, _, _, _]) rfl ?_
            refine qv_iload rfl ?_
            refine qv_if_ge_t (by rw [hr0]; decide) (tgt := 2) rfl ?_
            refine qW.blk rfl ?_
            refine qv_aload rfl ?_
            refine qv_gr ly_163 ⟨rfl, rfl, rfl⟩ (by omega) ?_
            refine qv_iload rfl ?_
            refine qv_ia ly_200 rfl (by omega) (by decide) (c4) ?_
            refine qv_iconst (v := 2) rfl ?_
            refine qv_iconst (v := 7) rfl ?_
            refine qv_staticE sg_Model_in rfl (r_Model_in hP (by omega) (nI (aS A l).2.2.1) (nI 2) (nI 7) _) ?_
            refine qv_if_ne_f (fun zq => zq (bI_f (iz))) (nx := 3) rfl ?_
            refine qW.blk rfl ?_
            refine qv_iconst (v := (-13)) rfl ?_
            refine qv_iret (rfl) ?_
            exact hk (uF s 163 0 0) J1 ((qfr.rf s).uF (by omega))
    · refine ⟨.int (refB (aS A l).1 (aS A l).2.1), A, hA, ?_, ?_⟩
      · intro s Q hJ hk
        obtain ⟨c1, c2, -⟩ := hJ.2.2.2.2 l hl8
        refine qP.of (L := [_, _, _, _, _]) (by omega) (hP _ rfl) ms_Desk_order rfl ?_
        show qW X PR (d - 1) (some .int) cd_Desk_order 0 _ _ _ _
        refine qW.blk rfl ?_
        refine qv_aload rfl ?_
        refine qv_iload rfl ?_
        refine qv_virtE (ly_8.rcv _) sg_Desk_shelfAt rfl rfl (r_shelfAt_y hP (by omega) hl8) ?_
        refine qv_astore (L' := [_, _, _, _, _]) rfl ?_
        refine qv_aload rfl ?_
        refine qv_iconst (v := 3) rfl ?_
        refine qv_staticE sg_Desk_refusalOf rfl (r_bytesRefusal hP (by omega) hl8 c1 s1 (fun z => (c2 z).1) s2) ?_
        refine qv_istore (L' := [_, _, _, _, _]) rfl ?_
        refine qv_aload rfl ?_
        refine qv_null_f (nx := 1) rfl ?_
        refine qW.blk rfl ?_
        refine qv_iload rfl ?_
        refine qv_if_eq_f (hr) (nx := 2) rfl ?_
        refine qW.blk rfl ?_
        refine qv_iload rfl ?_
        refine qv_iret (rfl) ?_
        exact hk s hJ (cfr.rf s)
      · intro s Q hJ hk
        have J1 := hJ.thr (v := 0)
        obtain ⟨c1, c2, -⟩ := J1.2.2.2.2.1 l hl8
        refine qP.of (L := [_, _, _, _, _, _, _]) (by omega) (hP _ rfl) ms_Model_order rfl ?_
        show qW X PR (d - 1) (some .int) cd_Model_order 0 _ _ _ _
        refine qW.blk rfl ?_
        refine qv_aload rfl ?_
        refine qv_iconst (v := 0) rfl ?_
        refine qv_pi ly_163 ⟨rfl, rfl, rfl⟩ (rfl) ?_
        refine qv_aload rfl ?_
        refine qv_iload rfl ?_
        refine qv_virt (ly_163.rcv _) sg_Model_lacks rfl rfl (w_M_lacks hP (by omega) hl8 c1 s1 (fun z => (c2 z).1) s2 ?_) 
        refine qv_istore (L' := [_, _, _, _, _, _, _]) rfl ?_
        refine qv_iload rfl ?_
        refine qv_if_ge_f (refB_neg hr) (nx := 1) rfl ?_
        refine qW.blk rfl ?_
        refine qv_iload rfl ?_
        refine qv_iret (rfl) ?_
        exact hk (uF s 163 0 0) J1 ((qfr.rf s).uF (by omega))
  · refine ⟨.int (-1), A, hA, ?_, ?_⟩
    · intro s Q hJ hk
      refine qP.of (L := [_, _, _, _, _]) (by omega) (hP _ rfl) ms_Desk_order rfl ?_
      show qW X PR (d - 1) (some .int) cd_Desk_order 0 _ _ _ _
      refine qW.blk rfl ?_
      refine qv_aload rfl ?_
      refine qv_iload rfl ?_
      refine qv_virtE (ly_8.rcv _) sg_Desk_shelfAt rfl rfl (r_shelfAt_n hP (by omega) hnb) ?_
      refine qv_astoreN (L' := [_, _, _, _, _]) rfl ?_
      refine qv_aloadN rfl ?_
      refine qv_iconst (v := 3) rfl ?_
      refine qv_staticE sg_Desk_refusalOf rfl (r_refusalNull hP (by omega) _) ?_
      refine qv_istore (L' := [_, _, _, _, _]) rfl ?_
      refine qv_aloadN rfl ?_
      refine qv_null_t (tgt := 2) rfl ?_
      refine qW.blk rfl ?_
      refine qv_iload rfl ?_
      refine qv_iret (rfl) ?_
      exact hk s hJ (cfr.rf s)
    · intro s Q hJ hk
      have J1 := hJ.thr (v := 0)
      refine qP.of (L := [_, _, _, _, _, _, _]) (by omega) (hP _ rfl) ms_Model_order rfl ?_
      show qW X PR (d - 1) (some .int) cd_Model_order 0 _ _ _ _
      refine qW.blk rfl ?_
      refine qv_aload rfl ?_
      refine qv_iconst (v := 0) rfl ?_
      refine qv_pi ly_163 ⟨rfl, rfl, rfl⟩ (rfl) ?_
      refine qv_aload rfl ?_
      refine qv_iload rfl ?_
      refine qv_virt (ly_163.rcv _) sg_Model_lacks rfl rfl (w_M_lacks_no hP (by omega) hnb ?_) 
      refine qv_istore (L' := [_, _, _, _, _, _, _]) rfl ?_
      refine qv_iload rfl ?_
      refine qv_if_ge_f (by decide) (nx := 1) rfl ?_
      refine qW.blk rfl ?_
      refine qv_iload rfl ?_
      refine qv_iret (rfl) ?_
      exact hk (uF s 163 0 0) J1 ((qfr.rf s).uF (by omega))
end
