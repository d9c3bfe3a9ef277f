/-! reach, first are alike -/
section
variable {X : pm_X} {PR : pm_P}
theorem Sim_reach (hP : pm_np PR) (g : Int32) : Sim X PR 135 220 [.int g] := by
  intro d A hd hA
  have hC := hA.1
  have hM := hC.2.2.2.1
  have hn1 := hC.1
  have hn7 := hC.2.1
  have vk := cvw_ok5 hC
  obtain ⟨hd1⟩ : Nonempty (∀ x, Decidable (rch (cvw (aC A)) (aC A 0) (if g = 0 then 0 else 1) x)) := ⟨fun _ => Classical.propDecidable _⟩
  have hB := fun y (hy : y < 7) => bsN_bit (P := rch (cvw (aC A)) (aC A 0) (if g = 0 then 0 else 1)) (x := y) (by omega) (aC A 0) (by omega)
  have hBl : bsN (rch (cvw (aC A)) (aC A 0) (if g = 0 then 0 else 1)) (aC A 0) < 128 := Nat.lt_of_lt_of_le (bsN_lt (aC A 0)) (two_lt (by omega))
  refine ⟨.int (nI (bsN (rch (cvw (aC A)) (aC A 0) (if g = 0 then 0 else 1)) (aC A 0))), A, hA, ?_, ?_⟩
  · intro s Q hJ hk
    refine qP.of (L := [_, _]) (by omega) (hP _ rfl) ms_Desk_reach rfl ?_
    show qW X PR (d - 1) (some .int) cd_Desk_reach 0 _ _ _ _
    refine qW.blk rfl ?_
    refine qv_aload rfl ?_
    refine qv_virt (ly_8.rcv _) sg_Desk_weighOrders rfl rfl (w_weighOrders hP (by omega) hJ.1 hC (fun t1 F1 g1 => ?_)) 
    refine qv_aload rfl ?_
    refine qv_gr ly_8 ⟨rfl, rfl, rfl⟩ (by omega) ?_
    refine qv_iload rfl ?_
    refine qv_virt (ly_111.rcv _) sg_Orders_reachBits rfl rfl (w_reachBits hP (by omega) vk g1 hn1 hn7 g (fun t2 b F2 b1 b2 => ?_)) 
    refine qv_iret (rfl) ?_
    rw [btn_ext b1 hBl (fun y hy => (b2 y hy).trans (hB y hy).symm)]
    have F : qfr 74 114 s t2 := (F1.mono (by omega) (by omega)).trans (F2.mono (by omega) (by omega))
    exact hk t2 (hJ.fr hA F (by omega)) (F.c (by omega) (by omega))
  · intro s Q hJ hk
    have J1 := hJ.thr (v := 0)
    obtain ⟨f1, f2⟩ := fct7 (aC A 0) (by omega)
    refine qP.of (L := [_, _, _, _, _]) (by omega) (hP _ rfl) ms_Model_reach rfl ?_
    show qW X PR (d - 1) (some .int) cd_Model_reach 0 _ _ _ _
    have loop : ∀ (c k b : Nat) (s1 : QST), k + c = fct (aC A 0) → rfr (uF s 163 0 0) s1 → b < 128 → (∀ y, y < 7 → (btn b y ↔ ∃ k', k' < k ∧ cmo (cvw (aC A)) (aC A 0) (prow (aC A 0) k') (aC A 0) (if g = 0 then 0 else 1) = y)) → qW X PR (d - 1) (some .int) cd_Model_reach 1 [some (.ref (163)), some (.int (g)), some (.int (nI (fct (aC A 0)))), some (.int (nI b)), some (.int (nI k))] [] s1 Q := by
      intro c
      induction c with
      | zero =>
        intro k b s1 hk1 F1 hb hbb
        have e : k = fct (aC A 0) := by omega
        subst e
        refine qW.blk rfl ?_
        refine qv_iload rfl ?_
        refine qv_iload rfl ?_
        refine qv_icmp_geNt rfl rfl (by omega) (by omega) (by omega) (tgt := 6) rfl ?_
        refine qW.blk rfl ?_
        refine qv_iload rfl ?_
        refine qv_iret (rfl) ?_
        rw [btn_ext hb hBl (fun y hy => by
          rw [hbb y hy, hB y hy]
          constructor
          · rintro ⟨k', h1, h2⟩
            have hlt : y < aC A 0 := by rw [← h2]; exact cmo_lt hn7 hn1 (prow_ok hn7 h1).1
            exact ⟨hlt, (rch_k vk hn1 hn7 hlt).mp ⟨k', h1, h2⟩⟩
          · rintro ⟨h1, h2⟩
            exact (rch_k vk hn1 hn7 h1).mpr h2)]
        exact hk s1 (J1.fr F1) (((qfr.rf s).uF (by omega)).trans F1.1)
      | succ c ih =>
        intro k b s1 hk1 F1 hb hbb
        have hkf : k < fct (aC A 0) := by omega
        have hro := (prow_ok hn7 hkf).1
        have hlt := cmo_lt (W := cvw (aC A)) (g := if g = 0 then 0 else 1) hn7 hn1 hro
        have e0 := (J1.fr F1).1 0 (by decide)
        obtain ⟨o1, o2⟩ := or7 (u := cmo (cvw (aC A)) (aC A 0) (prow (aC A 0) k) (aC A 0) (if g = 0 then 0 else 1)) (by omega) hb
        have nx : ∀ s2, rfr (uF s 163 0 0) s2 → qW X PR (d - 1) (some .int) cd_Model_reach 1 [some (.ref (163)), some (.int (g)), some (.int (nI (fct (aC A 0)))), some (.int (nI (b ||| 2 ^ cmo (cvw (aC A)) (aC A 0) (prow (aC A 0) k) (aC A 0) (if g = 0 then 0 else 1)))), some (.int (nI (k + 1)))] [] s2 Q := fun s2 F2 => by
          refine ih (k + 1) _ s2 (by omega) F2 o2 (fun y hy => ?_)
          rw [btn_or, hbb y hy]
          constructor
          · rintro (⟨k', h1, h2⟩ | q)
            · exact ⟨k', by omega, h2⟩
            · exact ⟨k, by omega, q⟩
          · rintro ⟨k', h1, h2⟩
            by_cases e : k' = k
            · subst e; exact Or.inr h2
            · exact Or.inl ⟨k', by omega, h2⟩
        by_cases h1 : aC A 0 = 1
        · have ec : cmo (cvw (aC A)) (aC A 0) (prow (aC A 0) k) (aC A 0) (if g = 0 then 0 else 1) = prow (aC A 0) k 0 := by rw [h1]; exact cmo_1
          rw [ec] at o1 nx
          refine qW.blk rfl ?_
          refine qv_iload rfl ?_
          refine qv_iload rfl ?_
          refine qv_icmp_geNf rfl rfl (by omega) (by omega) (by omega) (nx := 2) rfl ?_
          refine qW.blk rfl ?_
          refine qv_aload rfl ?_
          refine qv_iload rfl ?_
          refine qv_iload rfl ?_
          refine qv_virt (ly_163.rcv _) sg_Model_findOrder rfl rfl (w_findOrder hP (by omega) e0 hn7 (prow_is hn7 hkf) (fun s2 F2 q1 q2 q3 => ?_)) 
          refine qv_iload rfl ?_
          refine qv_iconst (v := 1) rfl ?_
          refine qv_aload rfl ?_
          refine qv_gi ly_163 ⟨rfl, rfl, rfl⟩ (q2) ?_
          refine qv_iconst (v := 1) rfl ?_
          refine qv_icmp_neNf (q := 1) rfl rfl (by omega) (by omega) (by omega) (nx := 3) rfl ?_
          refine qW.blk rfl ?_
          refine qv_aload rfl ?_
          refine qv_gr ly_163 ⟨rfl, rfl, rfl⟩ (by omega) ?_
          refine qv_iconst (v := 0) rfl ?_
          refine qv_ia (j := 0) ly_191 rfl (by omega) (by decide) (q3 0 (by omega)) ?_
          refine qv_goto (tgt := 5) rfl ?_
          refine qW.blk rfl ?_
          refine qv_ishl ?_
          refine qv_ior ?_
          refine qv_top (o1) ?_
          refine qv_istore (L' := [_, _, _, _, _]) rfl ?_
          refine qv_iinc (L' := [_, _, _, _, _]) rfl (nI_succ _).symm rfl ?_
          refine qv_goto (tgt := 1) rfl ?_
          exact nx s2 (F1.trans F2)
        · refine qW.blk rfl ?_
          refine qv_iload rfl ?_
          refine qv_iload rfl ?_
          refine qv_icmp_geNf rfl rfl (by omega) (by omega) (by omega) (nx := 2) rfl ?_
          refine qW.blk rfl ?_
          refine qv_aload rfl ?_
          refine qv_iload rfl ?_
          refine qv_iload rfl ?_
          refine qv_virt (ly_163.rcv _) sg_Model_findOrder rfl rfl (w_findOrder hP (by omega) e0 hn7 (prow_is hn7 hkf) (fun s2 F2 q1 q2 q3 => ?_)) 
          refine qv_iload rfl ?_
          refine qv_iconst (v := 1) rfl ?_
          refine qv_aload rfl ?_
          refine qv_gi ly_163 ⟨rfl, rfl, rfl⟩ (q2) ?_
          refine qv_iconst (v := 1) rfl ?_
          refine qv_icmp_neNt (q := 1) rfl rfl (by omega) (by omega) (by omega) (tgt := 4) rfl ?_
          refine qW.blk rfl ?_
          refine qv_aload rfl ?_
          refine qv_iload rfl ?_
          refine qv_virt (ly_163.rcv _) sg_Model_orderEnds rfl rfl (w_orderEnds hP (by omega) (rview_neu (J1.fr (F1.trans F2)).1 hC (J1.fr (F1.trans F2)).2.2.2.2.2) vk hn7 hro hn1 hn7 q2 q3 g (fun s3 F3 => ?_)) 
          refine qv_nil (nx := 5) rfl ?_
          refine qW.blk rfl ?_
          refine qv_ishl ?_
          refine qv_ior ?_
          refine qv_top (o1) ?_
          refine qv_istore (L' := [_, _, _, _, _]) rfl ?_
          refine qv_iinc (L' := [_, _, _, _, _]) rfl (nI_succ _).symm rfl ?_
          refine qv_goto (tgt := 1) rfl ?_
          exact nx s3 ((F1.trans F2).sQ F3 (by omega))
    refine qW.blk rfl ?_
    refine qv_aload rfl ?_
    refine qv_iconst (v := 0) rfl ?_
    refine qv_pi ly_163 ⟨rfl, rfl, rfl⟩ (rfl) ?_
    refine qv_aload rfl ?_
    refine qv_virt (ly_163.rcv _) sg_Model_allOrders rfl rfl (w_allOrders hP (by omega) (J1.1 0 (by decide)) hn1 hn7 ?_) 
    refine qv_istore (L' := [_, _, _, _, _]) rfl ?_
    refine qv_iconst (v := 0) rfl ?_
    refine qv_istore (L' := [_, _, _, _, _]) rfl ?_
    refine qv_iconst (v := 0) rfl ?_
    refine qv_istore (L' := [_, _, _, _, _]) rfl ?_
    refine qv_nil (nx := 1) rfl ?_
    exact loop _ 0 0 _ (Nat.zero_add _) (rfr.rf _) (by omega) (fun y hy => ⟨fun q => absurd q (btn0 y), fun ⟨k', h, _⟩ => absurd h (Nat.not_lt_zero _)⟩)
theorem Sim_first (hP : pm_np PR) (e g : Int32) : Sim X PR 136 223 [.int e, .int g] := by
  intro d A hd hA
  have hC := hA.1
  have hM := hC.2.2.2.1
  have hn1 := hC.1
  have hn7 := hC.2.1
  have vk := cvw_ok5 hC
  obtain ⟨f1, f2⟩ := fct7 (aC A 0) (by omega)
  rcases pl_of e (aC A 0) with ⟨l, hl, rfl⟩ | hne
  · have ij : (0 ≤ nI l ∧ nI l ≤ nI (aC A 0) - 1) := (in_nI1 (by omega)).mpr ⟨l, hl, rfl⟩
    by_cases hx : ∃ k, k < fct (aC A 0) ∧ cmo (cvw (aC A)) (aC A 0) (prow (aC A 0) k) (aC A 0) (if g = 0 then 0 else 1) = l
    · obtain ⟨k0, ⟨hk1, hk2⟩, hk3⟩ := pk_least _ hx
      have hno : ∀ k', k' < k0 → cmo (cvw (aC A)) (aC A 0) (prow (aC A 0) k') (aC A 0) (if g = 0 then 0 else 1) ≠ l := fun k' h q => hk3 k' h ⟨by omega, q⟩
      refine ⟨.int (nI (dig (prow (aC A 0) k0) (aC A 0))), A, hA, ?_, ?_⟩
      · intro s Q hJ hk
        refine qP.of (L := [_, _, _]) (by omega) (hP _ rfl) ms_Desk_first rfl ?_
        show qW X PR (d - 1) (some .int) cd_Desk_first 0 _ _ _ _
        refine qW.blk rfl ?_
        refine qv_aload rfl ?_
        refine qv_iload rfl ?_
        refine qv_virtE (ly_8.rcv _) sg_Desk_isThere rfl rfl (r_Desk_isThere hP (by omega) (nI l) hJ.1.1) ?_
        refine qv_if_ne_t (bI_ne.mpr (ij)) (tgt := 2) rfl ?_
        refine qW.blk rfl ?_
        refine qv_aload rfl ?_
        refine qv_virt (ly_8.rcv _) sg_Desk_weighOrders rfl rfl (w_weighOrders hP (by omega) hJ.1 hC (fun t1 F1 g1 => ?_)) 
        refine qv_aload rfl ?_
        refine qv_gr ly_8 ⟨rfl, rfl, rfl⟩ (by omega) ?_
        refine qv_iload rfl ?_
        refine qv_iload rfl ?_
        refine qv_virt (ly_111.rcv _) sg_Orders_firstFor rfl rfl (w_firstFor hP (by omega) vk g1 hn1 hn7 hl g hk1 hk2 hno (fun t2 F2 => ?_)) 
        refine qv_iret (rfl) ?_
        have F : qfr 74 114 s t2 := (F1.mono (by omega) (by omega)).trans (F2.mono (by omega) (by omega))
        exact hk t2 (hJ.fr hA F (by omega)) (F.c (by omega) (by omega))
      · intro s Q hJ hk
        have J1 := hJ.thr (v := 0)
        refine qP.of (L := [_, _, _, _, _, _, _]) (by omega) (hP _ rfl) ms_Model_first rfl ?_
        show qW X PR (d - 1) (some .int) cd_Model_first 0 _ _ _ _
        have hro0 := (prow_ok hn7 hk1).1
        have digs : ∀ (r m : Nat) (v : Int32) (s1 : QST), r + m = aC A 0 → v = nI r - 1 → rfr (uF s 163 0 0) s1 → (∀ j, j < aC A 0 → qE s1 191 j = nI (prow (aC A 0) k0 j)) → qW X PR (d - 1) (some .int) cd_Model_first 9 [some (.ref (163)), some (.int (nI l)), some (.int (g)), some (.int (nI (fct (aC A 0)))), some (.int (nI k0)), some (.int (nI (dgt (prow (aC A 0) k0) (aC A 0) m))), some (.int (v))] [] s1 Q := by
          intro r
          induction r with
          | zero =>
            intro m v s1 hr hv F1 g1
            subst hv
            have e : m = aC A 0 := by omega
            subst e
            refine qW.blk rfl ?_
            refine qv_iload rfl ?_
            refine qv_if_lt_t (by decide) (tgt := 11) rfl ?_
            refine qW.blk rfl ?_
            refine qv_iload rfl ?_
            refine qv_iret (rfl) ?_
            have := dgt_dig (l := prow (aC A 0) k0) (n := aC A 0) (aC A 0) (Nat.le_refl _)
            rw [Nat.sub_self] at this
            have e : dgt (prow (aC A 0) k0) (aC A 0) (aC A 0) = dig (prow (aC A 0) k0) (aC A 0) := by
              rw [← this]; show _ = dgt (prow (aC A 0) k0) (aC A 0) (aC A 0) * 1 + 0; omega
            rw [e]
            exact hk s1 (J1.fr F1) (((qfr.rf s).uF (by omega)).trans F1.1)
          | succ r ih =>
            intro m v s1 hr hv F1 g1
            rw [nI_dec] at hv
            subst hv
            have er : aC A 0 - 1 - m = r := by omega
            have nx := ih (m + 1) (nI r - 1) s1 (by omega) rfl F1 g1
            have e : dgt (prow (aC A 0) k0) (aC A 0) (m + 1) = 8 * dgt (prow (aC A 0) k0) (aC A 0) m + prow (aC A 0) k0 r := by show dgt (prow (aC A 0) k0) (aC A 0) m * 8 + prow (aC A 0) k0 (aC A 0 - 1 - m) = _; rw [er, Nat.mul_comm]
            rw [e] at nx
            refine qW.blk rfl ?_
            refine qv_iload rfl ?_
            refine qv_if_lt_f (Int32.not_lt.mpr (nI_pos' (by omega))) (nx := 10) rfl ?_
            refine qW.blk rfl ?_
            refine qv_iconst (v := 8) rfl ?_
            refine qv_iload rfl ?_
            refine qv_imulN (p := 8) rfl rfl ?_
            refine qv_aload rfl ?_
            refine qv_gr ly_163 ⟨rfl, rfl, rfl⟩ (by omega) ?_
            refine qv_iload rfl ?_
            refine qv_ia ly_191 (rfl) (by omega) (by decide) (g1 r (by omega)) ?_
            refine qv_iaddN rfl rfl ?_
            refine qv_istore (L' := [_, _, _, _, _, _, _]) rfl ?_
            refine qv_iinc (L' := [_, _, _, _, _, _, _]) rfl (dec_eq _) rfl ?_
            refine qv_goto (tgt := 9) rfl ?_
            exact nx
        have loop : ∀ (c k : Nat) (s1 : QST) (L5 L6 : Option Value), k + c = k0 → rfr (uF s 163 0 0) s1 → qW X PR (d - 1) (some .int) cd_Model_first 3 [some (.ref (163)), some (.int (nI l)), some (.int (g)), some (.int (nI (fct (aC A 0)))), some (.int (nI k)), L5, L6] [] s1 Q := by
          intro c
          induction c with
          | zero =>
            intro k s1 L5 L6 hkk F1
            have e : k = k0 := by omega
            subst e
            have e0 := (J1.fr F1).1 0 (by decide)
            by_cases h1 : aC A 0 = 1
            · have ec : prow (aC A 0) k 0 = l := by rw [← hk2, h1]; exact cmo_1.symm
              refine qW.blk rfl ?_
              refine qv_iload rfl ?_
              refine qv_iload rfl ?_
              refine qv_icmp_geNf rfl rfl (by omega) (by omega) (by omega) (nx := 4) rfl ?_
              refine qW.blk rfl ?_
              refine qv_aload rfl ?_
              refine qv_iload rfl ?_
              refine qv_iload rfl ?_
              refine qv_virt (ly_163.rcv _) sg_Model_findOrder rfl rfl (w_findOrder hP (by omega) e0 hn7 (prow_is hn7 hk1) (fun s2 F2 q1 q2 q3 => ?_)) 
              refine qv_aload rfl ?_
              refine qv_gi ly_163 ⟨rfl, rfl, rfl⟩ (q2) ?_
              refine qv_iconst (v := 1) rfl ?_
              refine qv_icmp_neNf (q := 1) rfl rfl (by omega) (by omega) (by omega) (nx := 5) rfl ?_
              refine qW.blk rfl ?_
              refine qv_aload rfl ?_
              refine qv_gr ly_163 ⟨rfl, rfl, rfl⟩ (by omega) ?_
              refine qv_iconst (v := 0) rfl ?_
              refine qv_ia (j := 0) ly_191 rfl (by omega) (by decide) ((q3 0 (by omega)).trans (congrArg nI ec)) ?_
              refine qv_goto (tgt := 7) rfl ?_
              refine qW.blk rfl ?_
              refine qv_iload rfl ?_
              refine qv_icmp_neNf rfl rfl (by omega) (by omega) (by omega) (nx := 8) rfl ?_
              refine qW.blk rfl ?_
              refine qv_iconst (v := 0) rfl ?_
              refine qv_istore (L' := [_, _, _, _, _, _, _]) rfl ?_
              refine qv_aload rfl ?_
              refine qv_gi ly_163 ⟨rfl, rfl, rfl⟩ (q2) ?_
              refine qv_iconst (v := 1) rfl ?_
              refine qv_isub ?_
              refine qv_istore (L' := [_, _, _, _, _, _, _]) rfl ?_
              refine qv_nil (nx := 9) rfl ?_
              exact digs (aC A 0) 0 _ s2 (by omega) rfl (F1.trans F2) q3
            · refine qW.blk rfl ?_
              refine qv_iload rfl ?_
              refine qv_iload rfl ?_
              refine qv_icmp_geNf rfl rfl (by omega) (by omega) (by omega) (nx := 4) rfl ?_
              refine qW.blk rfl ?_
              refine qv_aload rfl ?_
              refine qv_iload rfl ?_
              refine qv_iload rfl ?_
              refine qv_virt (ly_163.rcv _) sg_Model_findOrder rfl rfl (w_findOrder hP (by omega) e0 hn7 (prow_is hn7 hk1) (fun s2 F2 q1 q2 q3 => ?_)) 
              refine qv_aload rfl ?_
              refine qv_gi ly_163 ⟨rfl, rfl, rfl⟩ (q2) ?_
              refine qv_iconst (v := 1) rfl ?_
              refine qv_icmp_neNt (q := 1) rfl rfl (by omega) (by omega) (by omega) (tgt := 6) rfl ?_
              refine qW.blk rfl ?_
              refine qv_aload rfl ?_
              refine qv_iload rfl ?_
              refine qv_virt (ly_163.rcv _) sg_Model_orderEnds rfl rfl (w_orderEnds hP (by omega) (rview_neu (J1.fr (F1.trans F2)).1 hC (J1.fr (F1.trans F2)).2.2.2.2.2) vk hn7 hro0 hn1 hn7 q2 q3 g (fun s3 F3 => ?_)) 
              refine qv_nil (nx := 7) rfl ?_
              refine qW.blk rfl ?_
              refine qv_iload rfl ?_
              refine qv_icmp_neNf rfl rfl (by omega) (by omega) (by omega) (nx := 8) rfl ?_
              refine qW.blk rfl ?_
              refine qv_iconst (v := 0) rfl ?_
              refine qv_istore (L' := [_, _, _, _, _, _, _]) rfl ?_
              refine qv_aload rfl ?_
              refine qv_gi ly_163 ⟨rfl, rfl, rfl⟩ ((F3.f (by omega)).trans q2) ?_
              refine qv_iconst (v := 1) rfl ?_
              refine qv_isub ?_
              refine qv_istore (L' := [_, _, _, _, _, _, _]) rfl ?_
              refine qv_nil (nx := 9) rfl ?_
              exact digs (aC A 0) 0 _ s3 (by omega) rfl ((F1.trans F2).sQ F3 (by omega)) (fun j hj => (F3.e (by omega)).trans (q3 j hj))
          | succ c ih =>
            intro k s1 L5 L6 hkk F1
            have hkf : k < fct (aC A 0) := by omega
            have hro := (prow_ok hn7 hkf).1
            have hne := hno k (by omega)
            have hlt := cmo_lt (W := cvw (aC A)) (g := if g = 0 then 0 else 1) hn7 hn1 hro
            have e0 := (J1.fr F1).1 0 (by decide)
            by_cases h1 : aC A 0 = 1
            · have ec : ¬ prow (aC A 0) k 0 = l := fun q => hne (by rw [← q, h1]; exact cmo_1)
              have h0 := hro.1 0 (by omega)
              refine qW.blk rfl ?_
              refine qv_iload rfl ?_
              refine qv_iload rfl ?_
              refine qv_icmp_geNf rfl rfl (by omega) (by omega) (by omega) (nx := 4) rfl ?_
              refine qW.blk rfl ?_
              refine qv_aload rfl ?_
              refine qv_iload rfl ?_
              refine qv_iload rfl ?_
              refine qv_virt (ly_163.rcv _) sg_Model_findOrder rfl rfl (w_findOrder hP (by omega) e0 hn7 (prow_is hn7 hkf) (fun s2 F2 q1 q2 q3 => ?_)) 
              refine qv_aload rfl ?_
              refine qv_gi ly_163 ⟨rfl, rfl, rfl⟩ (q2) ?_
              refine qv_iconst (v := 1) rfl ?_
              refine qv_icmp_neNf (q := 1) rfl rfl (by omega) (by omega) (by omega) (nx := 5) rfl ?_
              refine qW.blk rfl ?_
              refine qv_aload rfl ?_
              refine qv_gr ly_163 ⟨rfl, rfl, rfl⟩ (by omega) ?_
              refine qv_iconst (v := 0) rfl ?_
              refine qv_ia (j := 0) ly_191 rfl (by omega) (by decide) (q3 0 (by omega)) ?_
              refine qv_goto (tgt := 7) rfl ?_
              refine qW.blk rfl ?_
              refine qv_iload rfl ?_
              refine qv_icmp_neNt rfl rfl (by omega) (by omega) (by omega) (tgt := 12) rfl ?_
              refine qW.blk rfl ?_
              refine qv_iinc (L' := [_, _, _, _, _, _, _]) rfl (nI_succ _).symm rfl ?_
              refine qv_goto (tgt := 3) rfl ?_
              exact ih (k + 1) s2 _ _ (by omega) (F1.trans F2)
            · refine qW.blk rfl ?_
              refine qv_iload rfl ?_
              refine qv_iload rfl ?_
              refine qv_icmp_geNf rfl rfl (by omega) (by omega) (by omega) (nx := 4) rfl ?_
              refine qW.blk rfl ?_
              refine qv_aload rfl ?_
              refine qv_iload rfl ?_
              refine qv_iload rfl ?_
              refine qv_virt (ly_163.rcv _) sg_Model_findOrder rfl rfl (w_findOrder hP (by omega) e0 hn7 (prow_is hn7 hkf) (fun s2 F2 q1 q2 q3 => ?_)) 
              refine qv_aload rfl ?_
              refine qv_gi ly_163 ⟨rfl, rfl, rfl⟩ (q2) ?_
              refine qv_iconst (v := 1) rfl ?_
              refine qv_icmp_neNt (q := 1) rfl rfl (by omega) (by omega) (by omega) (tgt := 6) rfl ?_
              refine qW.blk rfl ?_
              refine qv_aload rfl ?_
              refine qv_iload rfl ?_
              refine qv_virt (ly_163.rcv _) sg_Model_orderEnds rfl rfl (w_orderEnds hP (by omega) (rview_neu (J1.fr (F1.trans F2)).1 hC (J1.fr (F1.trans F2)).2.2.2.2.2) vk hn7 hro hn1 hn7 q2 q3 g (fun s3 F3 => ?_)) 
              refine qv_nil (nx := 7) rfl ?_
              refine qW.blk rfl ?_
              refine qv_iload rfl ?_
              refine qv_icmp_neNt rfl rfl (by omega) (by omega) (by omega) (tgt := 12) rfl ?_
              refine qW.blk rfl ?_
              refine qv_iinc (L' := [_, _, _, _, _, _, _]) rfl (nI_succ _).symm rfl ?_
              refine qv_goto (tgt := 3) rfl ?_
              exact ih (k + 1) s3 _ _ (by omega) ((F1.trans F2).sQ F3 (by omega))
        refine qW.blk rfl ?_
        refine qv_aload rfl ?_
        refine qv_iconst (v := 0) rfl ?_
        refine qv_pi ly_163 ⟨rfl, rfl, rfl⟩ (rfl) ?_
        refine qv_aload rfl ?_
        refine qv_iload rfl ?_
        refine qv_virtE (ly_163.rcv _) sg_Model_isThere rfl rfl (r_M_isThere hP (by omega) (nI l) (J1.1 0 (by decide))) ?_
        refine qv_if_ne_t (bI_ne.mpr (ij)) (tgt := 2) rfl ?_
        refine qW.blk rfl ?_
        refine qv_aload rfl ?_
        refine qv_virt (ly_163.rcv _) sg_Model_allOrders rfl rfl (w_allOrders hP (by omega) (J1.1 0 (by decide)) hn1 hn7 ?_) 
        refine qv_istore (L' := [_, _, _, _, _, _, _]) rfl ?_
        refine qv_iconst (v := 0) rfl ?_
        refine qv_istore (L' := [_, _, _, _, _, _, _]) rfl ?_
        refine qv_nil (nx := 3) rfl ?_
        exact loop k0 0 _ _ _ (Nat.zero_add _) (rfr.rf _)
    · have hno : ∀ k', k' < fct (aC A 0) → cmo (cvw (aC A)) (aC A 0) (prow (aC A 0) k') (aC A 0) (if g = 0 then 0 else 1) ≠ l := fun k' h q => hx ⟨k', h, q⟩
      have hnr : ¬ rch (cvw (aC A)) (aC A 0) (if g = 0 then 0 else 1) l := fun q => hx ((rch_k vk hn1 hn7 hl).mpr q)
      refine ⟨.int (-4), A, hA, ?_, ?_⟩
      · intro s Q hJ hk
        refine qP.of (L := [_, _, _]) (by omega) (hP _ rfl) ms_Desk_first rfl ?_
        show qW X PR (d - 1) (some .int) cd_Desk_first 0 _ _ _ _
        refine qW.blk rfl ?_
        refine qv_aload rfl ?_
        refine qv_iload rfl ?_
        refine qv_virtE (ly_8.rcv _) sg_Desk_isThere rfl rfl (r_Desk_isThere hP (by omega) (nI l) hJ.1.1) ?_
        refine qv_if_ne_t (bI_ne.mpr (ij)) (tgt := 2) rfl ?_
        refine qW.blk rfl ?_
        refine qv_aload rfl ?_
        refine qv_virt (ly_8.rcv _) sg_Desk_weighOrders rfl rfl (w_weighOrders hP (by omega) hJ.1 hC (fun t1 F1 g1 => ?_)) 
        refine qv_aload rfl ?_
        refine qv_gr ly_8 ⟨rfl, rfl, rfl⟩ (by omega) ?_
        refine qv_iload rfl ?_
        refine qv_iload rfl ?_
        refine qv_virt (ly_111.rcv _) sg_Orders_firstFor rfl rfl (w_firstFor_n hP (by omega) vk g1 hn1 hn7 hl g hnr (fun t2 F2 => ?_)) 
        refine qv_iret (rfl) ?_
        have F : qfr 74 114 s t2 := (F1.mono (by omega) (by omega)).trans (F2.mono (by omega) (by omega))
        exact hk t2 (hJ.fr hA F (by omega)) (F.c (by omega) (by omega))
      · intro s Q hJ hk
        have J1 := hJ.thr (v := 0)
        refine qP.of (L := [_, _, _, _, _, _, _]) (by omega) (hP _ rfl) ms_Model_first rfl ?_
        show qW X PR (d - 1) (some .int) cd_Model_first 0 _ _ _ _
        have loop : ∀ (c k : Nat) (s1 : QST) (L5 L6 : Option Value), k + c = fct (aC A 0) → rfr (uF s 163 0 0) s1 → qW X PR (d - 1) (some .int) cd_Model_first 3 [some (.ref (163)), some (.int (nI l)), some (.int (g)), some (.int (nI (fct (aC A 0)))), some (.int (nI k)), L5, L6] [] s1 Q := by
          intro c
          induction c with
          | zero =>
            intro k s1 L5 L6 hkk F1
            have e : k = fct (aC A 0) := by omega
            subst e
            refine qW.blk rfl ?_
            refine qv_iload rfl ?_
            refine qv_iload rfl ?_
            refine qv_icmp_geNt rfl rfl (by omega) (by omega) (by omega) (tgt := 13) rfl ?_
            refine qW.blk rfl ?_
            refine qv_iconst (v := (-4)) rfl ?_
            refine qv_iret (rfl) ?_
            exact hk s1 (J1.fr F1) (((qfr.rf s).uF (by omega)).trans F1.1)
          | succ c ih =>
            intro k s1 L5 L6 hkk F1
            have hkf : k < fct (aC A 0) := by omega
            have hro := (prow_ok hn7 hkf).1
            have hne := hno k (by omega)
            have hlt := cmo_lt (W := cvw (aC A)) (g := if g = 0 then 0 else 1) hn7 hn1 hro
            have e0 := (J1.fr F1).1 0 (by decide)
            by_cases h1 : aC A 0 = 1
            · have ec : ¬ prow (aC A 0) k 0 = l := fun q => hne (by rw [← q, h1]; exact cmo_1)
              have h0 := hro.1 0 (by omega)
              refine qW.blk rfl ?_
              refine qv_iload rfl ?_
              refine qv_iload rfl ?_
              refine qv_icmp_geNf rfl rfl (by omega) (by omega) (by omega) (nx := 4) rfl ?_
              refine qW.blk rfl ?_
              refine qv_aload rfl ?_
              refine qv_iload rfl ?_
              refine qv_iload rfl ?_
              refine qv_virt (ly_163.rcv _) sg_Model_findOrder rfl rfl (w_findOrder hP (by omega) e0 hn7 (prow_is hn7 hkf) (fun s2 F2 q1 q2 q3 => ?_)) 
              refine qv_aload rfl ?_
              refine qv_gi ly_163 ⟨rfl, rfl, rfl⟩ (q2) ?_
              refine qv_iconst (v := 1) rfl ?_
              refine qv_icmp_neNf (q := 1) rfl rfl (by omega) (by omega) (by omega) (nx := 5) rfl ?_
              refine qW.blk rfl ?_
              refine qv_aload rfl ?_
              refine qv_gr ly_163 ⟨rfl, rfl, rfl⟩ (by omega) ?_
              refine qv_iconst (v := 0) rfl ?_
              refine qv_ia (j := 0) ly_191 rfl (by omega) (by decide) (q3 0 (by omega)) ?_
              refine qv_goto (tgt := 7) rfl ?_
              refine qW.blk rfl ?_
              refine qv_iload rfl ?_
              refine qv_icmp_neNt rfl rfl (by omega) (by omega) (by omega) (tgt := 12) rfl ?_
              refine qW.blk rfl ?_
              refine qv_iinc (L' := [_, _, _, _, _, _, _]) rfl (nI_succ _).symm rfl ?_
              refine qv_goto (tgt := 3) rfl ?_
              exact ih (k + 1) s2 _ _ (by omega) (F1.trans F2)
            · refine qW.blk rfl ?_
              refine qv_iload rfl ?_
              refine qv_iload rfl ?_
              refine qv_icmp_geNf rfl rfl (by omega) (by omega) (by omega) (nx := 4) rfl ?_
              refine qW.blk rfl ?_
              refine qv_aload rfl ?_
              refine qv_iload rfl ?_
              refine qv_iload rfl ?_
              refine qv_virt (ly_163.rcv _) sg_Model_findOrder rfl rfl (w_findOrder hP (by omega) e0 hn7 (prow_is hn7 hkf) (fun s2 F2 q1 q2 q3 => ?_)) 
              refine qv_aload rfl ?_
              refine qv_gi ly_163 ⟨rfl, rfl, rfl⟩ (q2) ?_
              refine qv_iconst (v := 1) rfl ?_
              refine qv_icmp_neNt (q := 1) rfl rfl (by omega) (by omega) (by omega) (tgt := 6) rfl ?_
              refine qW.blk rfl ?_
              refine qv_aload rfl ?_
              refine qv_iload rfl ?_
              refine qv_virt (ly_163.rcv _) sg_Model_orderEnds rfl rfl (w_orderEnds hP (by omega) (rview_neu (J1.fr (F1.trans F2)).1 hC (J1.fr (F1.trans F2)).2.2.2.2.2) vk hn7 hro hn1 hn7 q2 q3 g (fun s3 F3 => ?_)) 
              refine qv_nil (nx := 7) rfl ?_
              refine qW.blk rfl ?_
              refine qv_iload rfl ?_
              refine qv_icmp_neNt rfl rfl (by omega) (by omega) (by omega) (tgt := 12) rfl ?_
              refine qW.blk rfl ?_
              refine qv_iinc (L' := [_, _, _, _, _, _, _]) rfl (nI_succ _).symm rfl ?_
              refine qv_goto (tgt := 3) rfl ?_
              exact ih (k + 1) s3 _ _ (by omega) ((F1.trans F2).sQ F3 (by omega))
        refine qW.blk rfl ?_
        refine qv_aload rfl ?_
        refine qv_iconst (v := 0) rfl ?_
        refine qv_pi ly_163 ⟨rfl, rfl, rfl⟩ (rfl) ?_
        refine qv_aload rfl ?_
        refine qv_iload rfl ?_
        refine qv_virtE (ly_163.rcv _) sg_Model_isThere rfl rfl (r_M_isThere hP (by omega) (nI l) (J1.1 0 (by decide))) ?_
        refine qv_if_ne_t (bI_ne.mpr (ij)) (tgt := 2) rfl ?_
        refine qW.blk rfl ?_
        refine qv_aload rfl ?_
        refine qv_virt (ly_163.rcv _) sg_Model_allOrders rfl rfl (w_allOrders hP (by omega) (J1.1 0 (by decide)) hn1 hn7 ?_) 
        refine qv_istore (L' := [_, _, _, _, _, _, _]) rfl ?_
        refine qv_iconst (v := 0) rfl ?_
        refine qv_istore (L' := [_, _, _, _, _, _, _]) rfl ?_
        refine qv_nil (nx := 3) rfl ?_
        exact loop _ 0 _ _ _ (Nat.zero_add _) (rfr.rf _)
  · have hj : ¬ (0 ≤ e ∧ e ≤ nI (aC A 0) - 1) := fun z => hne ((in_nI1 (by omega)).mp z)
    refine ⟨.int (-1), A, hA, ?_, ?_⟩
    · intro s Q hJ hk
      refine qP.of (L := [_, _, _]) (by omega) (hP _ rfl) ms_Desk_first rfl ?_
      show qW X PR (d - 1) (some .int) cd_Desk_first 0 _ _ _ _
      refine qW.blk rfl ?_
      refine qv_aload rfl ?_
      refine qv_iload rfl ?_
      refine qv_virtE (ly_8.rcv _) sg_Desk_isThere rfl rfl (r_Desk_isThere hP (by omega) e hJ.1.1) ?_
      refine qv_if_ne_f (fun zq => zq (bI_f (hj))) (nx := 1) rfl ?_
      refine qW.blk rfl ?_
      refine qv_iconst (v := (-1)) rfl ?_
      refine qv_iret (rfl) ?_
      exact hk s hJ (cfr.rf s)
    · intro s Q hJ hk
      have J1 := hJ.thr (v := 0)
      refine qP.of (L := [_, _, _, _, _, _, _]) (by omega) (hP _ rfl) ms_Model_first rfl ?_
      show qW X PR (d - 1) (some .int) cd_Model_first 0 _ _ _ _
      refine qW.blk rfl ?_
      refine qv_aload rfl ?_
      refine qv_iconst (v := 0) rfl ?_
      refine qv_pi ly_163 ⟨rfl, rfl, rfl⟩ (rfl) ?_
      refine qv_aload rfl ?_
      refine qv_iload rfl ?_
      refine qv_virtE (ly_163.rcv _) sg_Model_isThere rfl rfl (r_M_isThere hP (by omega) e (J1.1 0 (by decide))) ?_
      refine qv_if_ne_f (fun zq => zq (bI_f (hj))) (nx := 1) rfl ?_
      refine qW.blk rfl ?_
      refine qv_iconst (v := (-1)) rfl ?_
      refine qv_iret (rfl) ?_
      exact hk (uF s 163 0 0) J1 ((qfr.rf s).uF (by omega))
end
