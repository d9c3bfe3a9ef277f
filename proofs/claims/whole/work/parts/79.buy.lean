/-! boughtOff is alike -/
section
variable {X : pm_X} {PR : pm_P}
theorem w_allOnes (hP : pm_np PR) {d : Nat} (hd : 1 ≤ d) {s : QST} {Q : QPost} {C : Nat → Nat} (hc : cC s 9 C) (hM : C 2 ≤ 9) (hk : Q (some (.int (nI (2 ^ (C 2) - 1)))) s) : qP X PR d 80 [.ref 115] s Q := by
  have h9 := pow9 (C 2) (by omega)
  have w : (1 <<< (nI (C 2) &&& 31) : Int32) - 1 = nI (2 ^ (C 2) - 1) := by rw [h9.1]; exact h9.2.2
  refine qP.of (L := [_]) (by omega) (hP _ rfl) ms_Plots_allOnes rfl ?_
  show qW X PR (d - 1) (some .int) cd_Plots_allOnes 0 _ _ _ _
  refine qW.blk rfl ?_
  refine qv_iconst (v := 1) rfl ?_
  refine qv_aload rfl ?_
  refine qv_gr ly_115 ⟨rfl, rfl, rfl⟩ (by omega) ?_
  refine qv_gi ly_9 ⟨rfl, rfl, rfl⟩ (hc.2.2.1) ?_
  refine qv_ishl ?_
  refine qv_iconst (v := 1) rfl ?_
  refine qv_isub ?_
  refine qv_top (w) ?_
  refine qv_iret (rfl) ?_
  exact hk
theorem pc_le (x : Nat) : pc x ≤ 10 := by
  have : ∀ m, sumN (fun i => x / 2 ^ i % 2) m ≤ m := by
    intro m
    induction m with
    | zero => exact Nat.le_refl _
    | succ m ih => show sumN (fun i => x / 2 ^ i % 2) m + x / 2 ^ m % 2 ≤ m + 1; omega
  exact this 10
theorem Sim_boughtOff (hP : pm_np PR) (t y : Int32) : Sim X PR 145 237 [.int t, .int y] := by
  intro d A hd hA
  have hC := hA.1
  have hM := hC.2.2.2.1
  have h12 := hC.2.2.2.2.1
  by_cases hv : (∃ k, k < aC A 3 ∧ t = nI k) ∧ ∃ x, x ≤ 6 ∧ y = nI x
  · obtain ⟨⟨k, hk3, rfl⟩, e, he, rfl⟩ := hv
    have hD := hA.2.2.2.1 k hk3
    have hK0 := hD.1
    have ie : nI 0 ≤ nI e ∧ nI e ≤ nI 6 := (w_iff (by omega) (by omega) (by omega)).mpr ⟨by omega, he⟩
    have hp9 := pow9 (aC A 2) (by omega)
    have hpos : 0 < 2 ^ (aC A 2) := Nat.two_pow_pos _
    obtain ⟨P, hPd⟩ : ∃ P : Nat → Prop, ∀ x, P x ↔ ((gval (wBuy (cvw (aC A)) x e) (aT A k).2.1 ((aT A k).2.2.2.1 - 1)).2.1 = e) := ⟨_, fun _ => Iff.rfl⟩
    have heq : ∀ x, (gval (wMk (cvw (aC A)) x 4 e) (aT A k).2.1 ((aT A k).2.2.2.1 - 1)).2.1 = (gval (wBuy (cvw (aC A)) x e) (aT A k).2.1 ((aT A k).2.2.2.1 - 1)).2.1 := fun x =>
      ((gval_ve (veq_buy (x := x) (e := e)) (wBuy_u (cvw_ok5 hC).u) hD.2.2.2.1 ((aT A k).2.2.2.1 - 1) (by omega)).1.2.1).symm
    have hgl := fun x => (gval_ve (veq.rf (wBuy (cvw (aC A)) x e)) (wBuy_u (cvw_ok5 hC).u) hD.2.2.2.1 ((aT A k).2.2.2.1 - 1) (by omega)).2.2.1
    obtain ⟨f, hf⟩ := bsf_ex P (2 ^ (aC A 2))
    refine ⟨.int f, A, hA, ?_, ?_⟩
    · intro s Q hJ hk
      obtain ⟨T, hT1, hT2⟩ := hJ.2.2.2.1 k hk3
      have hr : bsf (fun x => subI x (2 ^ (aC A 2) - 1) ∧ (gval (wMk (cvw (aC A)) x 4 e) (aT A k).2.1 ((aT A k).2.2.2.1 - 1)).2.1 = e) 512 f := by
        have h1 : bsf (fun x => x < 2 ^ (aC A 2) ∧ P x) 512 f := bsf_ext hf (by omega) (fun x hx => ⟨fun z => z.2, fun z => ⟨hx, z⟩⟩) (fun x z => z.1)
        rcases h1 with ⟨g1, g2⟩ | ⟨b, ⟨g1, g2, g3⟩, g4⟩
        · exact Or.inl ⟨fun x hx z => g1 x hx ⟨by have := subI_le (x := x) (y := 2 ^ (aC A 2) - 1) (by omega) (by omega) z.1; omega, (hPd x).mpr (by rw [← heq]; exact z.2)⟩, g2⟩
        · have hb := (hPd b).mp g2.2
          refine Or.inr ⟨b, ⟨g1, ⟨subI_all (aC A 2) (by omega) b (by omega) g2.1, by rw [heq]; exact hb⟩, fun x hx z => g3 x hx ⟨by have := subI_le (x := x) (y := 2 ^ (aC A 2) - 1) (by omega) (by omega) z.1; omega, (hPd x).mpr (by rw [← heq]; exact z.2)⟩⟩, g4⟩
      refine qP.of (L := [_, _, _, _]) (by omega) (hP _ rfl) ms_Desk_boughtOff rfl ?_
      show qW X PR (d - 1) (some .int) cd_Desk_boughtOff 0 _ _ _ _
      refine qW.blk rfl ?_
      refine qv_aload rfl ?_
      refine qv_gr ly_8 ⟨rfl, rfl, rfl⟩ (by omega) ?_
      refine qv_iload rfl ?_
      refine qv_virtE (ly_9.rcv _) sg_Chamber_treeAt rfl rfl (r_treeAt_y hP (by omega) hJ.1.2.2.2.1 h12 hk3 hT1) ?_
      refine qv_astore (L' := [_, _, _, _]) rfl ?_
      refine qv_aload rfl ?_
      refine qv_null_f (nx := 1) rfl ?_
      refine qW.blk rfl ?_
      refine qv_iload rfl ?_
      refine qv_staticE sg_Desk_isEnd rfl (r_Desk_isEnd hP (by omega) (nI e) _) ?_
      refine qv_if_ne_t (bI_ne.mpr (ie)) (tgt := 3) rfl ?_
      refine qW.blk rfl ?_
      refine qv_aload rfl ?_
      refine qv_gr ly_8 ⟨rfl, rfl, rfl⟩ (by omega) ?_
      refine qv_aload rfl ?_
      refine qv_gr ly_8 ⟨rfl, rfl, rfl⟩ (by omega) ?_
      refine qv_virt (ly_115.rcv _) sg_Plots_allOnes rfl rfl (w_allOnes hP (by omega) hJ.1 hM ?_) 
      refine qv_iconst (v := 4) rfl ?_
      refine qv_aload rfl ?_
      refine qv_iload rfl ?_
      refine qv_virt (ly_115.rcv _) sg_Plots_fewestOf rfl rfl (w_fewestOf hP (by omega) hJ.1 hC hD hT2 (k := 4) (Or.inr rfl) (by omega) (by omega) hr (fun s2 F2 => ?_)) 
      refine qv_iret (rfl) ?_
      exact hk s2 (hJ.fr hA F2 (by omega)) (F2.c (by omega) (by omega))
    · intro s Q hJ hk
      have J1 := hJ.thr (v := 0)
      refine qP.of (L := [_, _, _, _, _]) (by omega) (hP _ rfl) ms_Model_boughtOff rfl ?_
      show qW X PR (d - 1) (some .int) cd_Model_boughtOff 0 _ _ _ _
      have fin : ∀ s1, kfr 33 (uF s 163 0 0) s1 → Q (some (.int f)) (uF s1 163 33 0) := by
        intro s1 F1
        have F := (F1.sF (k := 33) (v := 0) (by omega)).done (by rw [qF_uFs]; exact J1.2.2.2.2.2.2.2.2.2.1.symm)
        exact hk _ (J1.fr F) (((qfr.rf s).uF (by omega)).trans F.1)
      have loopB : ∀ (c x : Nat) (g : Int32) (s1 : QST), x + c = 2 ^ (aC A 2) → bsf P x g → kfr 33 (uF s 163 0 0) s1 → qF s1 163 34 = nI e → qW X PR (d - 1) (some .int) cd_Model_boughtOff 4 [some (.ref (163)), some (.int (nI k)), some (.int (nI e)), some (.int (g)), some (.int (nI x))] [] s1 Q := by
        intro c
        induction c with
        | zero =>
          intro x g s1 hx hg F1 _
          have ex : x = 2 ^ (aC A 2) := by omega
          have eg := bsf_fun (by rw [← ex]; exact hg) hf
          subst eg
          have K1 := J1.k F1
          refine qW.blk rfl ?_
          refine qv_iload rfl ?_
          refine qv_iconst (v := 1) rfl ?_
          refine qv_aload rfl ?_
          refine qv_gr ly_163 ⟨rfl, rfl, rfl⟩ (by omega) ?_
          refine qv_iconst (v := 2) rfl ?_
          refine qv_ia (j := 2) ly_164 rfl (by omega) (by decide) (K1.1 2 (by decide)) ?_
          refine qv_ishl ?_
          refine qv_icmp_ge_t (by rw [hp9.1]; exact nI_le (by omega) (by omega)) (tgt := 12) rfl ?_
          refine qW.blk rfl ?_
          refine qv_aload rfl ?_
          refine qv_iconst (v := 0) rfl ?_
          refine qv_pi ly_163 ⟨rfl, rfl, rfl⟩ (rfl) ?_
          refine qv_iload rfl ?_
          refine qv_iret (rfl) ?_
          exact fin s1 F1
        | succ c ih =>
          intro x g s1 hx hg F1 i34
          have K1 := J1.k F1
          have h10 : ¬ (1 <<< (nI (aC A 2) &&& 31) : Int32) ≤ nI x := by rw [hp9.1]; exact nI_ge (by omega) (by omega)
          have nx : ∀ g' s2, bsf P (x + 1) g' → kfr 33 (uF s 163 0 0) s2 → qF s2 163 34 = nI e → qW X PR (d - 1) (some .int) cd_Model_boughtOff 11 [some (.ref (163)), some (.int (nI k)), some (.int (nI e)), some (.int (g')), some (.int (nI x))] [] s2 Q := by
            intro g' s2 hg' F2 i34
            refine qW.blk rfl ?_
            refine qv_iinc (L' := [_, _, _, _, _]) rfl (nI_succ _).symm rfl ?_
            refine qv_goto (tgt := 4) rfl ?_
            exact ih (x + 1) g' s2 (by omega) hg' F2 i34
          have ev : ∀ (g : Int32), bsf P x g → (P x → bsf P (x + 1) (nI x)) → qW X PR (d - 1) (some .int) cd_Model_boughtOff 7 [some (.ref (163)), some (.int (nI k)), some (.int (nI e)), some (.int (g)), some (.int (nI x))] [] s1 Q := by
            intro g hg hnew
            have F2 := F1.sF (k := 33) (v := nI x) (by omega)
            have K2 := J1.k F2
            have i34' : qF (uF s1 163 33 (nI x)) 163 34 = nI e := by rw [qF_uFk (by omega)]; exact i34
            have rv := rview_buy K2.1 hC K2.2.2 (x := x) (by omega) qF_uFs i34'
            have hl := hgl x
            by_cases h2 : (gval (wBuy (cvw (aC A)) x e) (aT A k).2.1 ((aT A k).2.2.2.1 - 1)).2.1 = e
            · refine qW.blk rfl ?_
              refine qv_aload rfl ?_
              refine qv_iload rfl ?_
              refine qv_pi ly_163 ⟨rfl, rfl, rfl⟩ (rfl) ?_
              refine qv_aload rfl ?_
              refine qv_iload rfl ?_
              refine qv_virt (ly_163.rcv _) sg_Model_endOf rfl rfl (w_M_endOf hP (by omega) rv (by omega) hD (K2.2.1 k hk3) (fun s3 F3 k1 k2 k3 => ?_)) 
              refine qv_iload rfl ?_
              refine qv_icmp_neNf rfl rfl (by omega) (by omega) (by omega) (nx := 8) rfl ?_
              refine qW.blk rfl ?_
              refine qv_iload rfl ?_
              refine qv_goto (tgt := 10) rfl ?_
              refine qW.blk rfl ?_
              refine qv_istore (L' := [_, _, _, _, _]) rfl ?_
              refine qv_nil (nx := 11) rfl ?_
              exact nx (nI x) s3 (hnew ((hPd x).mpr h2)) (F2.e F3) ((F3.2.2.2 34 (by omega)).trans i34')
            · refine qW.blk rfl ?_
              refine qv_aload rfl ?_
              refine qv_iload rfl ?_
              refine qv_pi ly_163 ⟨rfl, rfl, rfl⟩ (rfl) ?_
              refine qv_aload rfl ?_
              refine qv_iload rfl ?_
              refine qv_virt (ly_163.rcv _) sg_Model_endOf rfl rfl (w_M_endOf hP (by omega) rv (by omega) hD (K2.2.1 k hk3) (fun s3 F3 k1 k2 k3 => ?_)) 
              refine qv_iload rfl ?_
              refine qv_icmp_neNt rfl rfl (by omega) (by omega) (by omega) (tgt := 9) rfl ?_
              refine qW.blk rfl ?_
              refine qv_iload rfl ?_
              refine qv_nil (nx := 10) rfl ?_
              refine qW.blk rfl ?_
              refine qv_istore (L' := [_, _, _, _, _]) rfl ?_
              refine qv_nil (nx := 11) rfl ?_
              exact nx g s3 (bsf_no hg (fun z => h2 ((hPd x).mp z))) (F2.e F3) ((F3.2.2.2 34 (by omega)).trans i34')
          rcases hg with ⟨g1, rfl⟩ | ⟨b, hb, rfl⟩
          · refine qW.blk rfl ?_
            refine qv_iload rfl ?_
            refine qv_iconst (v := 1) rfl ?_
            refine qv_aload rfl ?_
            refine qv_gr ly_163 ⟨rfl, rfl, rfl⟩ (by omega) ?_
            refine qv_iconst (v := 2) rfl ?_
            refine qv_ia (j := 2) ly_164 rfl (by omega) (by decide) (K1.1 2 (by decide)) ?_
            refine qv_ishl ?_
            refine qv_icmp_ge_f (h10) (nx := 5) rfl ?_
            refine qW.blk rfl ?_
            refine qv_iload rfl ?_
            refine qv_if_lt_t (by decide) (tgt := 7) rfl ?_
            exact ev _ (Or.inl ⟨g1, rfl⟩) (fun hp => Or.inr ⟨x, best_new1 g1 hp, rfl⟩)
          · have hb1 := hb.1
            have hpx1 := pc_le x
            have hpx2 := pc_le b
            have b13 : qW X PR (d - 1) (some .int) cd_Model_boughtOff 4 [some (.ref (163)), some (.int (nI k)), some (.int (nI e)), some (.int (nI b)), some (.int (nI x))] [] s1 Q := by
              by_cases hlt : pc x < pc b
              · refine qW.blk rfl ?_
                refine qv_iload rfl ?_
                refine qv_iconst (v := 1) rfl ?_
                refine qv_aload rfl ?_
                refine qv_gr ly_163 ⟨rfl, rfl, rfl⟩ (by omega) ?_
                refine qv_iconst (v := 2) rfl ?_
                refine qv_ia (j := 2) ly_164 rfl (by omega) (by decide) (K1.1 2 (by decide)) ?_
                refine qv_ishl ?_
                refine qv_icmp_ge_f (h10) (nx := 5) rfl ?_
                refine qW.blk rfl ?_
                refine qv_iload rfl ?_
                refine qv_if_ltNf rfl (by omega) (by omega) (nx := 6) rfl ?_
                refine qW.blk rfl ?_
                refine qv_iload rfl ?_
                refine qv_static sg_Model_ones rfl (w_M_ones hP (by omega) (by omega) ?_) 
                refine qv_iload rfl ?_
                refine qv_static sg_Model_ones rfl (w_M_ones hP (by omega) (by omega) ?_) 
                refine qv_icmp_geNf rfl rfl (by omega) (by omega) (by omega) (nx := 7) rfl ?_
                exact ev _ (Or.inr ⟨b, hb, rfl⟩) (fun hp => Or.inr ⟨x, best_new2 hb hp hlt, rfl⟩)
              · refine qW.blk rfl ?_
                refine qv_iload rfl ?_
                refine qv_iconst (v := 1) rfl ?_
                refine qv_aload rfl ?_
                refine qv_gr ly_163 ⟨rfl, rfl, rfl⟩ (by omega) ?_
                refine qv_iconst (v := 2) rfl ?_
                refine qv_ia (j := 2) ly_164 rfl (by omega) (by decide) (K1.1 2 (by decide)) ?_
                refine qv_ishl ?_
                refine qv_icmp_ge_f (h10) (nx := 5) rfl ?_
                refine qW.blk rfl ?_
                refine qv_iload rfl ?_
                refine qv_if_ltNf rfl (by omega) (by omega) (nx := 6) rfl ?_
                refine qW.blk rfl ?_
                refine qv_iload rfl ?_
                refine qv_static sg_Model_ones rfl (w_M_ones hP (by omega) (by omega) ?_) 
                refine qv_iload rfl ?_
                refine qv_static sg_Model_ones rfl (w_M_ones hP (by omega) (by omega) ?_) 
                refine qv_icmp_geNt rfl rfl (by omega) (by omega) (by omega) (tgt := 11) rfl ?_
                exact nx _ s1 (Or.inr ⟨b, best_keep hb (by omega), rfl⟩) F1 i34
            exact b13
      refine qW.blk rfl ?_
      refine qv_aload rfl ?_
      refine qv_iconst (v := 0) rfl ?_
      refine qv_pi ly_163 ⟨rfl, rfl, rfl⟩ (rfl) ?_
      refine qv_aload rfl ?_
      refine qv_iload rfl ?_
      refine qv_virtE (ly_163.rcv _) sg_Model_isTree rfl rfl (r_M_isTree hP (by omega) (nI k) (J1.1 3 (by decide))) ?_
      refine qv_if_eq_f (bI_ne.mpr ((in_nI1 (by omega)).mpr ⟨k, hk3, rfl⟩)) (nx := 1) rfl ?_
      refine qW.blk rfl ?_
      refine qv_iload rfl ?_
      refine qv_staticE sg_Model_isEnd rfl (r_Model_isEnd hP (by omega) (nI e) _) ?_
      refine qv_if_ne_t (bI_ne.mpr (ie)) (tgt := 3) rfl ?_
      refine qW.blk rfl ?_
      refine qv_iconst (v := (-4)) rfl ?_
      refine qv_istore (L' := [_, _, _, _, _]) rfl ?_
      refine qv_aload rfl ?_
      refine qv_iload rfl ?_
      refine qv_pi ly_163 ⟨rfl, rfl, rfl⟩ (rfl) ?_
      refine qv_iconst (v := 0) rfl ?_
      refine qv_istore (L' := [_, _, _, _, _]) rfl ?_
      refine qv_nil (nx := 4) rfl ?_
      exact loopB (2 ^ (aC A 2)) 0 _ _ (by omega) (Or.inl ⟨fun y hy => by omega, rfl⟩) ((kfr.rf _ _).sF (by omega)) qF_uFs
  · refine ⟨.int (-1), A, hA, ?_, ?_⟩
    · intro s Q hJ hk
      have fin := hk s hJ (cfr.rf s)
      refine qP.of (L := [_, _, _, _]) (by omega) (hP _ rfl) ms_Desk_boughtOff rfl ?_
      show qW X PR (d - 1) (some .int) cd_Desk_boughtOff 0 _ _ _ _
      rcases pl_of t (aC A 3) with ⟨k, hk3, rfl⟩ | hn
      · obtain ⟨T, hT1, hT2⟩ := hJ.2.2.2.1 k hk3
        have hj : ¬ (0 ≤ y ∧ y ≤ nI 6) := fun z => hv ⟨⟨k, hk3, rfl⟩, (in_nI (n := 6) (by omega)).mp z⟩
        refine qW.blk rfl ?_
        refine qv_aload rfl ?_
        refine qv_gr ly_8 ⟨rfl, rfl, rfl⟩ (by omega) ?_
        refine qv_iload rfl ?_
        refine qv_virtE (ly_9.rcv _) sg_Chamber_treeAt rfl rfl (r_treeAt_y hP (by omega) hJ.1.2.2.2.1 h12 hk3 hT1) ?_
        refine qv_astore (L' := [_, _, _, _]) rfl ?_
        refine qv_aload rfl ?_
        refine qv_null_f (nx := 1) rfl ?_
        refine qW.blk rfl ?_
        refine qv_iload rfl ?_
        refine qv_staticE sg_Desk_isEnd rfl (r_Desk_isEnd hP (by omega) y _) ?_
        refine qv_if_ne_f (fun zq => zq (bI_f (hj))) (nx := 2) rfl ?_
        refine qW.blk rfl ?_
        refine qv_iconst (v := (-1)) rfl ?_
        refine qv_iret (rfl) ?_
        exact fin
      · refine qW.blk rfl ?_
        refine qv_aload rfl ?_
        refine qv_gr ly_8 ⟨rfl, rfl, rfl⟩ (by omega) ?_
        refine qv_iload rfl ?_
        refine qv_virtE (ly_9.rcv _) sg_Chamber_treeAt rfl rfl (r_treeAt_n hP (by omega) hJ.1.2.2.2.1 h12 hn) ?_
        refine qv_astoreN (L' := [_, _, _, _]) rfl ?_
        refine qv_aloadN rfl ?_
        refine qv_null_t (tgt := 2) rfl ?_
        refine qW.blk rfl ?_
        refine qv_iconst (v := (-1)) rfl ?_
        refine qv_iret (rfl) ?_
        exact fin
    · intro s Q hJ hk
      have fin := hk (uF s 163 0 0) hJ.thr ((qfr.rf s).uF (by omega))
      refine qP.of (L := [_, _, _, _, _]) (by omega) (hP _ rfl) ms_Model_boughtOff rfl ?_
      show qW X PR (d - 1) (some .int) cd_Model_boughtOff 0 _ _ _ _
      rcases pl_of t (aC A 3) with hm | hn
      · have hj : ¬ (0 ≤ y ∧ y ≤ nI 6) := fun z => hv ⟨hm, (in_nI (n := 6) (by omega)).mp z⟩
        refine qW.blk rfl ?_
        refine qv_aload rfl ?_
        refine qv_iconst (v := 0) rfl ?_
        refine qv_pi ly_163 ⟨rfl, rfl, rfl⟩ (rfl) ?_
        refine qv_aload rfl ?_
        refine qv_iload rfl ?_
        refine qv_virtE (ly_163.rcv _) sg_Model_isTree rfl rfl (r_M_isTree hP (by omega) t (hJ.thr.1 3 (by decide))) ?_
        refine qv_if_eq_f (bI_ne.mpr ((in_nI1 (by omega)).mpr hm)) (nx := 1) rfl ?_
        refine qW.blk rfl ?_
        refine qv_iload rfl ?_
        refine qv_staticE sg_Model_isEnd rfl (r_Model_isEnd hP (by omega) y _) ?_
        refine qv_if_ne_f (fun zq => zq (bI_f (hj))) (nx := 2) rfl ?_
        refine qW.blk rfl ?_
        refine qv_iconst (v := (-1)) rfl ?_
        refine qv_iret (rfl) ?_
        exact fin
      · refine qW.blk rfl ?_
        refine qv_aload rfl ?_
        refine qv_iconst (v := 0) rfl ?_
        refine qv_pi ly_163 ⟨rfl, rfl, rfl⟩ (rfl) ?_
        refine qv_aload rfl ?_
        refine qv_iload rfl ?_
        refine qv_virtE (ly_163.rcv _) sg_Model_isTree rfl rfl (r_M_isTree hP (by omega) t (hJ.thr.1 3 (by decide))) ?_
        refine qv_if_eq_t (bI_f (fun z => hn ((in_nI1 (by omega)).mp z))) (tgt := 2) rfl ?_
        refine qW.blk rfl ?_
        refine qv_iconst (v := (-1)) rfl ?_
        refine qv_iret (rfl) ?_
        exact fin
end
