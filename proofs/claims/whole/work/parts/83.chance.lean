/-! chance and surely are alike -/
def csum (P : Nat → Prop) [∀ b, Decidable (P b)] (w : Nat → Int64) : Nat → Int64
  | 0 => 0
  | b + 1 => csum P w b + (if P b then w b else 0)
theorem csum_s {P : Nat → Prop} [∀ b, Decidable (P b)] {w : Nat → Int64} {b : Nat} : csum P w (b + 1) = csum P w b + (if P b then w b else 0) := rfl
def bcnt (P : Nat → Prop) [∀ b, Decidable (P b)] : Nat → Nat
  | 0 => 0
  | b + 1 => bcnt P b + (if P b then 1 else 0)
theorem bcnt_s {P : Nat → Prop} [∀ b, Decidable (P b)] {b : Nat} : bcnt P (b + 1) = bcnt P b + (if P b then 1 else 0) := rfl
theorem bcnt_le {P : Nat → Prop} [∀ b, Decidable (P b)] : ∀ n, bcnt P n ≤ n := by
  intro n
  induction n with
  | zero => exact Nat.le_refl _
  | succ n ih => rw [bcnt_s]; split <;> omega
theorem bcnt_mono {P : Nat → Prop} [∀ b, Decidable (P b)] {b : Nat} : ∀ k, bcnt P b ≤ bcnt P (b + k) ∧ bcnt P (b + k) ≤ bcnt P b + k := by
  intro k
  induction k with
  | zero => exact ⟨Nat.le_refl _, Nat.le_refl _⟩
  | succ k ih => rw [show b + (k + 1) = b + k + 1 from rfl, bcnt_s]; split <;> omega
theorem wt_b {C : Nat → Nat} (hC : CB C) {U : Nat → Nat} {z : Nat} (hu : unsB C U z) : ∀ i, i < z → C (50 + U i) ≤ 100 := fun i hi => (hC.2.2.2.2.2 _ (hu.2.1 i hi)).2.2.2.2.2.1
theorem uns_B {C : Nat → Nat} : unsB C (fun i => (uns C (C 2)).getD i 0) (uns C (C 2)).length := ⟨uns_le _, (uns_lt _).1, (uns_lt _).2⟩
section
variable {X : pm_X} {PR : pm_P} {s : QST} {Q : QPost}
theorem hm.d0 {C : Nat → Nat} {p : Nat} (h : hm s (cvw C) p) : hm s (wDbt (cvw C) C 0) p := by
  obtain ⟨h1, h2, h3, h4⟩ := h
  refine ⟨h1, h2, h3, fun m hm => ?_⟩
  obtain ⟨a1, a2, a3, a4, a5⟩ := h4 m hm
  refine ⟨a1, a2, a3, a4, fun e he => ?_⟩
  show _ = (if btn 0 m then _ else _)
  rw [if_neg (btn0 m)]; exact a5 e he
theorem w_chanceOf (hP : pm_np PR) {d : Nat} (hd : 8 ≤ d) {C : Nat → Nat} (hc : cC s 9 C) (hC : CB C) {U : Nat → Nat} {z : Nat} (hU : U = fun i => (uns C (C 2)).getD i 0) (hz : z = (uns C (C 2)).length) {D : TD} (hD : tdOK D) {T e : Nat} (hT : cTD (qR s) T D) (he : e < 7) (hk : ∀ s', qfr 74 116 s s' → Q (some (.long (csum (fun b => (gval (wDbt (cvw C) C (dset U b z)) D.2.1 (D.2.2.2.1 - 1)).2.1 = e) (fun b => wt C U b z) (2 ^ z)))) s') : qP X PR d 77 [.ref 115, .ref T, .int (nI e)] s Q := by
  have hM := hC.2.2.2.1
  have hu : unsB C U z := by rw [hU, hz]; exact uns_B
  have hz6 := hu.1
  have h6 := shl6 z (by omega)
  have hw0 := fun b => wt_0 (b := b) (wt_b hC hu) hz6
  refine qP.of (L := [_, _, _, _, _, _, _, _, _]) (by omega) (hP _ rfl) ms_Plots_chanceOf rfl ?_
  show qW X PR (d - 1) (some .long) cd_Plots_chanceOf 0 _ _ _ _
  have loop : ∀ (c b p x0 : Nat) (s1 : QST) (L7 : Option Value), b + c = 2 ^ z → qfr 74 116 s s1 → (∀ m, btn x0 m → ∃ i, i < z ∧ U i = m) → hm s1 (wDbt (cvw C) C x0) p → vok (cvw C) p → (∀ i, i < z → qE s1 116 i = nI (U i)) → qW X PR (d - 1) (some .long) cd_Plots_chanceOf 1 [some (.ref (115)), some (.ref (T)), some (.int (nI e)), some (.int (nI z)), some (.long (csum (fun b => (gval (wDbt (cvw C) C (dset U b z)) D.2.1 (D.2.2.2.1 - 1)).2.1 = e) (fun b => wt C U b z) b)), none, some (.int (nI b)), L7, none] [] s1 Q := by
    intro c
    induction c with
    | zero =>
      intro b p x0 s1 L7 hb F1 hx0 m1 v1 h1
      have eb : b = 2 ^ z := by omega
      subst eb
      refine qW.blk rfl ?_
      refine qv_iload rfl ?_
      refine qv_iconst (v := 1) rfl ?_
      refine qv_iload rfl ?_
      refine qv_ishl ?_
      refine qv_icmp_ge_t (by rw [h6.1]; exact nI_le (Nat.le_refl _) (by omega)) (tgt := 6) rfl ?_
      refine qW.blk rfl ?_
      refine qv_lload rfl ?_
      refine qv_lret rfl ?_
      exact hk s1 F1
    | succ c ih =>
      intro b p x0 s1 L7 hb F1 hx0 m1 v1 h1
      have h10 : ¬ (1 <<< (nI z &&& 31) : Int32) ≤ nI b := by rw [h6.1]; exact nI_ge (by omega) (by omega)
      have hc1 : cC s1 9 C := hc.cg F1 hM (by omega)
      obtain ⟨got, hgot⟩ : ∃ got, (gval (wDbt (cvw C) C (dset U b z)) D.2.1 (D.2.2.2.1 - 1)).2.1 = got := ⟨_, rfl⟩
      have hg7 : got < 7 := by rw [← hgot]; exact (gval_lt hD (wDbt_ok (cvw_ok5 hC)).u).1
      have hx1 : ∀ m, btn (dset U b z) m → ∃ i, i < z ∧ U i = m := fun m hm => by
        obtain ⟨i, g1, g2, -⟩ := ((dset_btn (U := U) (b := b) (z := z) (fun i hi => by have := hu.2.1 i hi; omega) z (Nat.le_refl _)).2 m).mp hm
        exact ⟨i, g1, g2⟩
      have nx := fun s2 L7 F2 m2 h2 => ih (b + 1) p (dset U b z) s2 L7 (by omega) F2 hx1 m2 v1 h2
      rw [csum_s] at nx
      by_cases hw : lg_cmp (wt C U b z) 0 ≤ 0
      · have w0 := hw0 b hw
        have e0 : (if (gval (wDbt (cvw C) C (dset U b z)) D.2.1 (D.2.2.2.1 - 1)).2.1 = e then wt C U b z else 0) = 0 := by rw [w0]; split <;> rfl
        rw [e0, Int64.add_zero] at nx
        refine qW.blk rfl ?_
        refine qv_iload rfl ?_
        refine qv_iconst (v := 1) rfl ?_
        refine qv_iload rfl ?_
        refine qv_ishl ?_
        refine qv_icmp_ge_f (h10) (nx := 2) rfl ?_
        refine qW.blk rfl ?_
        refine qv_aload rfl ?_
        refine qv_iload rfl ?_
        refine qv_iload rfl ?_
        refine qv_virt (ly_115.rcv _) sg_Plots_suppose rfl rfl (w_suppose hP (by omega) hc1 hC hu h1 (by omega) hx0 m1 (fun s2 F2 f2 m2 => ?_)) 
        refine qv_lstore (L' := [_, _, _, _, _, _, _, _, _]) rfl ?_
        refine qv_lload rfl ?_
        refine qv_lconst (v := 0) rfl ?_
        refine qv_lcmp ?_
        refine qv_if_le_t (hw) (tgt := 5) rfl ?_
        refine qW.blk rfl ?_
        refine qv_iinc (L' := [_, _, _, _, _, _, _, _, _]) rfl (nI_succ _).symm rfl ?_
        refine qv_goto (tgt := 1) rfl ?_
        exact nx s2 _ (F1.trans (F2.mono (by omega) (by omega))) m2 (fun i hi => by rw [F2.e (by omega)]; exact h1 i hi)
      · by_cases hg : got = e
        · rw [if_pos (hgot.trans hg)] at nx
          refine qW.blk rfl ?_
          refine qv_iload rfl ?_
          refine qv_iconst (v := 1) rfl ?_
          refine qv_iload rfl ?_
          refine qv_ishl ?_
          refine qv_icmp_ge_f (h10) (nx := 2) rfl ?_
          refine qW.blk rfl ?_
          refine qv_aload rfl ?_
          refine qv_iload rfl ?_
          refine qv_iload rfl ?_
          refine qv_virt (ly_115.rcv _) sg_Plots_suppose rfl rfl (w_suppose hP (by omega) hc1 hC hu h1 (by omega) hx0 m1 (fun s2 F2 f2 m2 => ?_)) 
          refine qv_lstore (L' := [_, _, _, _, _, _, _, _, _]) rfl ?_
          refine qv_lload rfl ?_
          refine qv_lconst (v := 0) rfl ?_
          refine qv_lcmp ?_
          refine qv_if_le_f (hw) (nx := 3) rfl ?_
          refine qW.blk rfl ?_
          refine qv_aload rfl ?_
          refine qv_gr ly_115 ⟨rfl, rfl, rfl⟩ (by omega) ?_
          refine qv_aload rfl ?_
          refine qv_virt (ly_74.rcv _) sg_Hall_settle rfl rfl (w_settleT hP (by omega) (m2.ok (wDbt_ok v1)) hD (by rw [F2.R, F1.R]; exact hT) (tdE hD) (m2.ve (wDbt_ok v1)) (fun s3 F3 h3 => ?_)) 
          refine qv_iload rfl ?_
          refine qv_icmp_neNf rfl rfl (by omega) (by omega) (by omega) (nx := 4) rfl ?_
          refine qW.blk rfl ?_
          refine qv_lload rfl ?_
          refine qv_lload rfl ?_
          refine qv_ladd ?_
          refine qv_lstore (L' := [_, _, _, _, _, _, _, _, _]) rfl ?_
          refine qv_nil (nx := 5) rfl ?_
          refine qW.blk rfl ?_
          refine qv_iinc (L' := [_, _, _, _, _, _, _, _, _]) rfl (nI_succ _).symm rfl ?_
          refine qv_goto (tgt := 1) rfl ?_
          exact nx s3 _ ((F1.trans (F2.mono (by omega) (by omega))).trans (F3.mono (by omega) (by omega))) (m2.fr F3 (by omega) v1.1) (fun i hi => by rw [F3.e (by omega), F2.e (by omega)]; exact h1 i hi)
        · rw [if_neg (fun z => hg (hgot.symm.trans z)), Int64.add_zero] at nx
          refine qW.blk rfl ?_
          refine qv_iload rfl ?_
          refine qv_iconst (v := 1) rfl ?_
          refine qv_iload rfl ?_
          refine qv_ishl ?_
          refine qv_icmp_ge_f (h10) (nx := 2) rfl ?_
          refine qW.blk rfl ?_
          refine qv_aload rfl ?_
          refine qv_iload rfl ?_
          refine qv_iload rfl ?_
          refine qv_virt (ly_115.rcv _) sg_Plots_suppose rfl rfl (w_suppose hP (by omega) hc1 hC hu h1 (by omega) hx0 m1 (fun s2 F2 f2 m2 => ?_)) 
          refine qv_lstore (L' := [_, _, _, _, _, _, _, _, _]) rfl ?_
          refine qv_lload rfl ?_
          refine qv_lconst (v := 0) rfl ?_
          refine qv_lcmp ?_
          refine qv_if_le_f (hw) (nx := 3) rfl ?_
          refine qW.blk rfl ?_
          refine qv_aload rfl ?_
          refine qv_gr ly_115 ⟨rfl, rfl, rfl⟩ (by omega) ?_
          refine qv_aload rfl ?_
          refine qv_virt (ly_74.rcv _) sg_Hall_settle rfl rfl (w_settleT hP (by omega) (m2.ok (wDbt_ok v1)) hD (by rw [F2.R, F1.R]; exact hT) (tdE hD) (m2.ve (wDbt_ok v1)) (fun s3 F3 h3 => ?_)) 
          refine qv_iload rfl ?_
          refine qv_icmp_neNt rfl rfl (by omega) (by omega) (by omega) (tgt := 5) rfl ?_
          refine qW.blk rfl ?_
          refine qv_iinc (L' := [_, _, _, _, _, _, _, _, _]) rfl (nI_succ _).symm rfl ?_
          refine qv_goto (tgt := 1) rfl ?_
          exact nx s3 _ ((F1.trans (F2.mono (by omega) (by omega))).trans (F3.mono (by omega) (by omega))) (m2.fr F3 (by omega) v1.1) (fun i hi => by rw [F3.e (by omega), F2.e (by omega)]; exact h1 i hi)
  refine qW.blk rfl ?_
  refine qv_aload rfl ?_
  refine qv_virt (ly_115.rcv _) sg_Plots_seatDoubtful rfl rfl (w_seatDoubtful hP (by omega) hc hC (fun s1 p F1 m1 v1 h1 => ?_)) 
  refine qv_istore (L' := [_, _, _, _, _, _, _, _, _]) rfl ?_
  refine qv_lconst (v := 0) rfl ?_
  refine qv_lstore (L' := [_, _, _, _, _, _, _, _, _]) rfl ?_
  refine qv_iconst (v := 0) rfl ?_
  refine qv_istore (L' := [_, _, _, _, _, _, _, _, _]) rfl ?_
  refine qv_nil (nx := 1) rfl ?_
  rw [← hz] at h1 ⊢
  exact loop (2 ^ z) 0 p 0 s1 _ (by omega) F1 (fun m hm => absurd hm (btn0 m)) m1.d0 v1 (fun i hi => by rw [h1 i hi, hU])
theorem Sim_chance (hP : pm_np PR) (t w : Int32) : Sim X PR 144 235 [.int t, .int w] := by
  intro d A hd hA
  have hC := hA.1
  have hM := hC.2.2.2.1
  have h12 := hC.2.2.2.2.1
  by_cases h0 : (∃ k, k < aC A 3 ∧ t = nI k) ∧ ∃ j, j ≤ 6 ∧ w = nI j
  · obtain ⟨⟨k, hk3, rfl⟩, j, hj, rfl⟩ := h0
    have hD := hA.2.2.2.1 k hk3
    have ij : nI 0 ≤ nI j ∧ nI j ≤ nI 6 := (w_iff (by omega) (by omega) (by omega)).mpr ⟨by omega, hj⟩
    obtain ⟨U, hU⟩ : ∃ U : Nat → Nat, U = fun i => (uns (aC A) (aC A 2)).getD i 0 := ⟨_, rfl⟩
    obtain ⟨z, hz⟩ : ∃ z, z = (uns (aC A) (aC A 2)).length := ⟨_, rfl⟩
    have hu : unsB (aC A) U z := by rw [hU, hz]; exact uns_B
    have hz6 := hu.1
    have h6 := shl6 z (by omega)
    refine ⟨.long (csum (fun b => (gval (wDbt (cvw (aC A)) (aC A) (dset U b z)) (aT A k).2.1 ((aT A k).2.2.2.1 - 1)).2.1 = j) (fun b => wt (aC A) U b z) (2 ^ z)), A, hA, ?_, ?_⟩
    · intro s Q hJ hk
      obtain ⟨T, hT1, hT2⟩ := hJ.2.2.2.1 k hk3
      refine qP.of (L := [_, _, _, _]) (by omega) (hP _ rfl) ms_Desk_chance rfl ?_
      show qW X PR (d - 1) (some .long) cd_Desk_chance 0 _ _ _ _
      refine qW.blk rfl ?_
      refine qv_aload rfl ?_
      refine qv_gr ly_8 ⟨rfl, rfl, rfl⟩ (by omega) ?_
      refine qv_iload rfl ?_
      refine qv_virtE (ly_9.rcv _) sg_Chamber_treeAt rfl rfl (r_treeAt_y hP (by omega) hJ.1.2.2.2.1 h12 hk3 hT1) ?_
      refine qv_astore (L' := [_, _, _, _]) rfl ?_
      refine qv_aload rfl ?_
      refine qv_null_f (nx := 1) rfl ?_
      refine qW.blk rfl ?_
      refine qv_iload rfl ?_
      refine qv_staticE sg_Desk_isEnd rfl (r_Desk_isEnd hP (by omega) (nI j) _) ?_
      refine qv_if_ne_t (bI_ne.mpr (ij)) (tgt := 3) rfl ?_
      refine qW.blk rfl ?_
      refine qv_aload rfl ?_
      refine qv_gr ly_8 ⟨rfl, rfl, rfl⟩ (by omega) ?_
      refine qv_aload rfl ?_
      refine qv_iload rfl ?_
      refine qv_virt (ly_115.rcv _) sg_Plots_chanceOf rfl rfl (w_chanceOf hP (by omega) hJ.1 hC hU hz hD hT2 (by omega) (fun s1 F1 => ?_)) 
      refine qv_lret rfl ?_
      exact hk _ (hJ.fr hA F1 (by omega)) (F1.c (by omega) (by omega))
    · intro s Q hJ hk
      have J1 := hJ.thr (v := 0)
      refine qP.of (L := [_, _, _, _, _, _, _, _, _, _, _]) (by omega) (hP _ rfl) ms_Model_chance rfl ?_
      show qW X PR (d - 1) (some .long) cd_Model_chance 0 _ _ _ _
      have loop : ∀ (c b : Nat) (s1 : QST) (L7 L9 L10 : Option Value), b + c = 2 ^ z → kfr 30 (uF s 163 0 0) s1 → (∀ i, i < z → qE s1 193 i = nI (U i)) → qW X PR (d - 1) (some .long) cd_Model_chance 4 [some (.ref (163)), some (.int (nI k)), some (.int (nI j)), some (.int (nI z)), some (.long (csum (fun b => (gval (wDbt (cvw (aC A)) (aC A) (dset U b z)) (aT A k).2.1 ((aT A k).2.2.2.1 - 1)).2.1 = j) (fun b => wt (aC A) U b z) b)), none, some (.int (nI b)), L7, none, L9, L10] [] s1 Q := by
        intro c
        induction c with
        | zero =>
          intro b s1 L7 L9 L10 hb F1 h1
          have eb : b = 2 ^ z := by omega
          subst eb
          refine qW.blk rfl ?_
          refine qv_iload rfl ?_
          refine qv_iconst (v := 1) rfl ?_
          refine qv_iload rfl ?_
          refine qv_ishl ?_
          refine qv_icmp_ge_t (by rw [h6.1]; exact nI_le (Nat.le_refl _) (by omega)) (tgt := 21) rfl ?_
          refine qW.blk rfl ?_
          refine qv_aload rfl ?_
          refine qv_iconst (v := 0) rfl ?_
          refine qv_pi ly_163 ⟨rfl, rfl, rfl⟩ (rfl) ?_
          refine qv_lload rfl ?_
          refine qv_lret rfl ?_
          have F := (F1.sF (k := 30) (v := 0) (by omega)).done (by rw [qF_uFs]; exact J1.2.2.2.2.2.2.2.1.symm)
          exact hk _ (J1.fr F) (((qfr.rf s).uF (by omega)).trans F.1)
        | succ c ih =>
          intro b s1 L7 L9 L10 hb F1 h1
          have h10 : ¬ (1 <<< (nI z &&& 31) : Int32) ≤ nI b := by rw [h6.1]; exact nI_ge (by omega) (by omega)
          obtain ⟨got, hgot⟩ : ∃ got, (gval (wDbt (cvw (aC A)) (aC A) (dset U b z)) (aT A k).2.1 ((aT A k).2.2.2.1 - 1)).2.1 = got := ⟨_, rfl⟩
          have hg7 : got < 7 := by rw [← hgot]; exact (gval_lt hD (wDbt_ok (cvw_ok5 hC)).u).1
          have hdb := dset_btn (U := U) (b := b) (z := z) (fun i hi => by have := hu.2.1 i hi; omega)
          have inner : ∀ (c2 i : Nat) (s2 : QST) (L10 : Option Value), i + c2 = z → kfr 30 (uF s 163 0 0) s2 → (∀ i, i < z → qE s2 193 i = nI (U i)) → qF s2 163 30 = nI (dset U b i) → qW X PR (d - 1) (some .long) cd_Model_chance 6 [some (.ref (163)), some (.int (nI k)), some (.int (nI j)), some (.int (nI z)), some (.long (csum (fun b => (gval (wDbt (cvw (aC A)) (aC A) (dset U b z)) (aT A k).2.1 ((aT A k).2.2.2.1 - 1)).2.1 = j) (fun b => wt (aC A) U b z) b)), none, some (.int (nI b)), some (.long (wt (aC A) U b i)), none, some (.int (nI i)), L10] [] s2 Q := by
            intro c2
            induction c2 with
            | zero =>
              intro i s2 L10 hi F2 h2 x2
              have ei : i = z := by omega
              subst ei
              have K2 := J1.k F2
              have rv := rview_dbt K2.1 hC K2.2.2 (hdb i (Nat.le_refl _)).1 x2
              have nx := fun s3 L7 L9 L10 F3 h3 => ih (b + 1) s3 L7 L9 L10 (by omega) F3 h3
              rw [csum_s] at nx
              by_cases hg : got = j
              · rw [if_pos (hgot.trans hg)] at nx
                refine qW.blk rfl ?_
                refine qv_iload rfl ?_
                refine qv_iload rfl ?_
                refine qv_icmp_geNt rfl rfl (by omega) (by omega) (by omega) (tgt := 17) rfl ?_
                refine qW.blk rfl ?_
                refine qv_lload rfl ?_
                refine qv_aload rfl ?_
                refine qv_iload rfl ?_
                refine qv_virt (ly_163.rcv _) sg_Model_endOf rfl rfl (w_M_endOf hP (by omega) rv (by omega) hD (K2.2.1 k hk3) (fun s3 F3 _ _ _ => ?_)) 
                refine qv_iload rfl ?_
                refine qv_icmp_neNf rfl rfl (by omega) (by omega) (by omega) (nx := 18) rfl ?_
                refine qW.blk rfl ?_
                refine qv_lload rfl ?_
                refine qv_goto (tgt := 20) rfl ?_
                refine qW.blk rfl ?_
                refine qv_ladd ?_
                refine qv_lstore (L' := [_, _, _, _, _, _, _, _, _, _, _]) rfl ?_
                refine qv_iinc (L' := [_, _, _, _, _, _, _, _, _, _, _]) rfl (nI_succ _).symm rfl ?_
                refine qv_goto (tgt := 4) rfl ?_
                exact nx s3 _ _ _ (F2.e F3) (fun q hq => by rw [F3.2.1 193 (by omega) (by omega)]; exact h2 q hq)
              · rw [if_neg (fun z => hg (hgot.symm.trans z))] at nx
                refine qW.blk rfl ?_
                refine qv_iload rfl ?_
                refine qv_iload rfl ?_
                refine qv_icmp_geNt rfl rfl (by omega) (by omega) (by omega) (tgt := 17) rfl ?_
                refine qW.blk rfl ?_
                refine qv_lload rfl ?_
                refine qv_aload rfl ?_
                refine qv_iload rfl ?_
                refine qv_virt (ly_163.rcv _) sg_Model_endOf rfl rfl (w_M_endOf hP (by omega) rv (by omega) hD (K2.2.1 k hk3) (fun s3 F3 _ _ _ => ?_)) 
                refine qv_iload rfl ?_
                refine qv_icmp_neNt rfl rfl (by omega) (by omega) (by omega) (tgt := 19) rfl ?_
                refine qW.blk rfl ?_
                refine qv_lconst (v := 0) rfl ?_
                refine qv_nil (nx := 20) rfl ?_
                refine qW.blk rfl ?_
                refine qv_ladd ?_
                refine qv_lstore (L' := [_, _, _, _, _, _, _, _, _, _, _]) rfl ?_
                refine qv_iinc (L' := [_, _, _, _, _, _, _, _, _, _, _]) rfl (nI_succ _).symm rfl ?_
                refine qv_goto (tgt := 4) rfl ?_
                exact nx s3 _ _ _ (F2.e F3) (fun q hq => by rw [F3.2.1 193 (by omega) (by omega)]; exact h2 q hq)
            | succ c2 ih2 =>
              intro i s2 L10 hi F2 h2 x2
              have K2 := J1.k F2
              obtain ⟨u, hue⟩ : ∃ u, U i = u := ⟨_, rfl⟩
              have hu2 : u < aC A 2 := by rw [← hue]; exact hu.2.1 i (by omega)
              have eU : qE s2 193 i = nI u := by rw [h2 i (by omega), hue]
              have eD : qE s2 164 (50 + u) = nI (aC A (50 + u)) := K2.1 _ (by omega)
              have hwt : ∀ w, wt1 (aC A) u b i = w → wt (aC A) U b (i + 1) = wt (aC A) U b i * w := fun w h => by show wt (aC A) U b i * wt1 (aC A) (U i) b i = _; rw [hue, h]
              have nx := fun s3 L10 F3 h3 x3 => ih2 (i + 1) s3 L10 (by omega) F3 h3 x3
              have d1 := (hdb i (by omega)).1
              by_cases hbi : btn b i
              · have w1 : wt1 (aC A) u b i = (nI (aC A (50 + u))).toInt64 := if_pos hbi
                have x1 : nI (dset U b i) ||| (1 <<< (nI u &&& 31)) = nI (dset U b (i + 1)) := by
                  rw [(or9 u (by omega) _ d1).1]
                  show _ = nI (if btn b i then dset U b i ||| 2 ^ U i else dset U b i)
                  rw [if_pos hbi, hue]
                rw [hwt _ w1] at nx
                refine qW.blk rfl ?_
                refine qv_iload rfl ?_
                refine qv_iload rfl ?_
                refine qv_icmp_geNf rfl rfl (by omega) (by omega) (by omega) (nx := 7) rfl ?_
                refine qW.blk rfl ?_
                refine qv_iload rfl ?_
                refine qv_iload rfl ?_
                refine qv_ishr ?_
                refine qv_iconst (v := 1) rfl ?_
                refine qv_iand ?_
                refine qv_iconst (v := 1) rfl ?_
                refine qv_icmp_ne_f (fun z => z ((bit_is (by omega) (by omega)).mpr hbi)) (nx := 8) rfl ?_
                refine qW.blk rfl ?_
                refine qv_iconst (v := 1) rfl ?_
                refine qv_goto (tgt := 10) rfl ?_
                refine qW.blk rfl ?_
                refine qv_istore (L' := [_, _, _, _, _, _, _, _, _, _, _]) rfl ?_
                refine qv_lload rfl ?_
                refine qv_iload rfl ?_
                refine qv_if_eq_f (by decide) (nx := 11) rfl ?_
                refine qW.blk rfl ?_
                refine qv_aload rfl ?_
                refine qv_gr ly_163 ⟨rfl, rfl, rfl⟩ (by omega) ?_
                refine qv_iconst (v := 50) rfl ?_
                refine qv_aload rfl ?_
                refine qv_gr ly_163 ⟨rfl, rfl, rfl⟩ (by omega) ?_
                refine qv_iload rfl ?_
                refine qv_ia ly_193 rfl (by omega) (by decide) (eU) ?_
                refine qv_iaddN (p := 50) rfl rfl ?_
                refine qv_ia ly_164 rfl (by omega) (by decide) (eD) ?_
                refine qv_i2l ?_
                refine qv_goto (tgt := 13) rfl ?_
                refine qW.blk rfl ?_
                refine qv_lmul ?_
                refine qv_lstore (L' := [_, _, _, _, _, _, _, _, _, _, _]) rfl ?_
                refine qv_aload rfl ?_
                refine qv_dup rfl ?_
                refine qv_gi ly_163 ⟨rfl, rfl, rfl⟩ (x2) ?_
                refine qv_iload rfl ?_
                refine qv_if_eq_f (by decide) (nx := 14) rfl ?_
                refine qW.blk rfl ?_
                refine qv_iconst (v := 1) rfl ?_
                refine qv_aload rfl ?_
                refine qv_gr ly_163 ⟨rfl, rfl, rfl⟩ (by omega) ?_
                refine qv_iload rfl ?_
                refine qv_ia ly_193 rfl (by omega) (by decide) (eU) ?_
                refine qv_ishl ?_
                refine qv_goto (tgt := 16) rfl ?_
                refine qW.blk rfl ?_
                refine qv_ior ?_
                refine qv_top (x1) ?_
                refine qv_pi ly_163 ⟨rfl, rfl, rfl⟩ (rfl) ?_
                refine qv_iinc (L' := [_, _, _, _, _, _, _, _, _, _, _]) rfl (nI_succ _).symm rfl ?_
                refine qv_goto (tgt := 6) rfl ?_
                exact nx _ _ (F2.sF (by omega)) h2 qF_uFs
              · have w1 : wt1 (aC A) u b i = ((100 : Int32) - nI (aC A (50 + u))).toInt64 := if_neg hbi
                have x1 : nI (dset U b i) ||| 0 = nI (dset U b (i + 1)) := by
                  show _ = nI (if btn b i then dset U b i ||| 2 ^ U i else dset U b i)
                  rw [if_neg hbi, Int32.or_zero]
                rw [hwt _ w1] at nx
                refine qW.blk rfl ?_
                refine qv_iload rfl ?_
                refine qv_iload rfl ?_
                refine qv_icmp_geNf rfl rfl (by omega) (by omega) (by omega) (nx := 7) rfl ?_
                refine qW.blk rfl ?_
                refine qv_iload rfl ?_
                refine qv_iload rfl ?_
                refine qv_ishr ?_
                refine qv_iconst (v := 1) rfl ?_
                refine qv_iand ?_
                refine qv_iconst (v := 1) rfl ?_
                refine qv_icmp_ne_t (fun z => hbi ((bit_is (by omega) (by omega)).mp z)) (tgt := 9) rfl ?_
                refine qW.blk rfl ?_
                refine qv_iconst (v := 0) rfl ?_
                refine qv_nil (nx := 10) rfl ?_
                refine qW.blk rfl ?_
                refine qv_istore (L' := [_, _, _, _, _, _, _, _, _, _, _]) rfl ?_
                refine qv_lload rfl ?_
                refine qv_iload rfl ?_
                refine qv_if_eq_t (rfl) (tgt := 12) rfl ?_
                refine qW.blk rfl ?_
                refine qv_iconst (v := 100) rfl ?_
                refine qv_aload rfl ?_
                refine qv_gr ly_163 ⟨rfl, rfl, rfl⟩ (by omega) ?_
                refine qv_iconst (v := 50) rfl ?_
                refine qv_aload rfl ?_
                refine qv_gr ly_163 ⟨rfl, rfl, rfl⟩ (by omega) ?_
                refine qv_iload rfl ?_
                refine qv_ia ly_193 rfl (by omega) (by decide) (eU) ?_
                refine qv_iaddN (p := 50) rfl rfl ?_
                refine qv_ia ly_164 rfl (by omega) (by decide) (eD) ?_
                refine qv_isub ?_
                refine qv_i2l ?_
                refine qv_nil (nx := 13) rfl ?_
                refine qW.blk rfl ?_
                refine qv_lmul ?_
                refine qv_lstore (L' := [_, _, _, _, _, _, _, _, _, _, _]) rfl ?_
                refine qv_aload rfl ?_
                refine qv_dup rfl ?_
                refine qv_gi ly_163 ⟨rfl, rfl, rfl⟩ (x2) ?_
                refine qv_iload rfl ?_
                refine qv_if_eq_t (rfl) (tgt := 15) rfl ?_
                refine qW.blk rfl ?_
                refine qv_iconst (v := 0) rfl ?_
                refine qv_nil (nx := 16) rfl ?_
                refine qW.blk rfl ?_
                refine qv_ior ?_
                refine qv_top (x1) ?_
                refine qv_pi ly_163 ⟨rfl, rfl, rfl⟩ (rfl) ?_
                refine qv_iinc (L' := [_, _, _, _, _, _, _, _, _, _, _]) rfl (nI_succ _).symm rfl ?_
                refine qv_goto (tgt := 6) rfl ?_
                exact nx _ _ (F2.sF (by omega)) h2 qF_uFs
          refine qW.blk rfl ?_
          refine qv_iload rfl ?_
          refine qv_iconst (v := 1) rfl ?_
          refine qv_iload rfl ?_
          refine qv_ishl ?_
          refine qv_icmp_ge_f (h10) (nx := 5) rfl ?_
          refine qW.blk rfl ?_
          refine qv_lconst (v := 1) rfl ?_
          refine qv_lstore (L' := [_, _, _, _, _, _, _, _, _, _, _]) rfl ?_
          refine qv_aload rfl ?_
          refine qv_iconst (v := 0) rfl ?_
          refine qv_pi ly_163 ⟨rfl, rfl, rfl⟩ (rfl) ?_
          refine qv_iconst (v := 0) rfl ?_
          refine qv_istore (L' := [_, _, _, _, _, _, _, _, _, _, _]) rfl ?_
          refine qv_nil (nx := 6) rfl ?_
          exact inner z 0 _ _ (by omega) (F1.sF (by omega)) h1 qF_uFs
      refine qW.blk rfl ?_
      refine qv_aload rfl ?_
      refine qv_iconst (v := 0) rfl ?_
      refine qv_pi ly_163 ⟨rfl, rfl, rfl⟩ (rfl) ?_
      refine qv_aload rfl ?_
      refine qv_iload rfl ?_
      refine qv_virtE (ly_163.rcv _) sg_Model_isTree rfl rfl (r_M_isTree hP (by omega) (nI k) (J1.1 3 (by decide))) ?_
      refine qv_if_eq_f (bI_ne.mpr ((in_nI1 (by omega)).mpr ⟨k, hk3, rfl⟩)) (nx := 1) rfl ?_
      refine qW.blk rfl ?_
      refine qv_iload rfl ?_
      refine qv_staticE sg_Model_isEnd rfl (r_Model_isEnd hP (by omega) (nI j) _) ?_
      refine qv_if_ne_t (bI_ne.mpr (ij)) (tgt := 3) rfl ?_
      refine qW.blk rfl ?_
      refine qv_aload rfl ?_
      refine qv_virt (ly_163.rcv _) sg_Model_findUnsure rfl rfl (w_findUnsure hP (by omega) J1.1 hC (fun s1 F1 f1 h1 => ?_)) 
      refine qv_istore (L' := [_, _, _, _, _, _, _, _, _, _, _]) rfl ?_
      refine qv_lconst (v := 0) rfl ?_
      refine qv_lstore (L' := [_, _, _, _, _, _, _, _, _, _, _]) rfl ?_
      refine qv_iconst (v := 0) rfl ?_
      refine qv_istore (L' := [_, _, _, _, _, _, _, _, _, _, _]) rfl ?_
      refine qv_nil (nx := 4) rfl ?_
      rw [← hz] at h1 ⊢
      exact loop (2 ^ z) 0 s1 _ _ _ (by omega) F1 (fun i hi => by rw [h1 i hi, hU])
  · refine ⟨.long (-1), A, hA, ?_, ?_⟩
    · intro s Q hJ hk
      have fin := hk s hJ (cfr.rf s)
      refine qP.of (L := [_, _, _, _]) (by omega) (hP _ rfl) ms_Desk_chance rfl ?_
      show qW X PR (d - 1) (some .long) cd_Desk_chance 0 _ _ _ _
      rcases pl_of t (aC A 3) with ⟨k, hk3, rfl⟩ | hn
      · obtain ⟨T, hT1, hT2⟩ := hJ.2.2.2.1 k hk3
        have hj : ¬ (0 ≤ w ∧ w ≤ nI 6) := fun z => h0 ⟨⟨k, hk3, rfl⟩, (in_nI (n := 6) (by omega)).mp z⟩
        refine qW.blk rfl ?_
        refine qv_aload rfl ?_
        refine qv_gr ly_8 ⟨rfl, rfl, rfl⟩ (by omega) ?_
        refine qv_iload rfl ?_
        refine qv_virtE (ly_9.rcv _) sg_Chamber_treeAt rfl rfl (r_treeAt_y hP (by omega) hJ.1.2.2.2.1 h12 hk3 hT1) ?_
        refine qv_astore (L' := [_, _, _, _]) rfl ?_
        refine qv_aload rfl ?_
        refine qv_null_f (nx := 1) rfl ?_
        refine qW.blk rfl ?_
        refine qv_iload rfl ?_
        refine qv_staticE sg_Desk_isEnd rfl (r_Desk_isEnd hP (by omega) w _) ?_
        refine qv_if_ne_f (fun zq => zq (bI_f (hj))) (nx := 2) rfl ?_
        refine qW.blk rfl ?_
        refine qv_lconst (v := (-1)) rfl ?_
        refine qv_lret rfl ?_
        exact fin
      · refine qW.blk rfl ?_
        refine qv_aload rfl ?_
        refine qv_gr ly_8 ⟨rfl, rfl, rfl⟩ (by omega) ?_
        refine qv_iload rfl ?_
        refine qv_virtE (ly_9.rcv _) sg_Chamber_treeAt rfl rfl (r_treeAt_n hP (by omega) hJ.1.2.2.2.1 h12 hn) ?_
        refine qv_astoreN (L' := [_, _, _, _]) rfl ?_
        refine qv_aloadN rfl ?_
        refine qv_null_t (tgt := 2) rfl ?_
        refine qW.blk rfl ?_
        refine qv_lconst (v := (-1)) rfl ?_
        refine qv_lret rfl ?_
        exact fin
    · intro s Q hJ hk
      have fin := hk (uF s 163 0 0) hJ.thr ((qfr.rf s).uF (by omega))
      refine qP.of (L := [_, _, _, _, _, _, _, _, _, _, _]) (by omega) (hP _ rfl) ms_Model_chance rfl ?_
      show qW X PR (d - 1) (some .long) cd_Model_chance 0 _ _ _ _
      rcases pl_of t (aC A 3) with hm | hn
      · have hj : ¬ (0 ≤ w ∧ w ≤ nI 6) := fun z => h0 ⟨hm, (in_nI (n := 6) (by omega)).mp z⟩
        refine qW.blk rfl ?_
        refine qv_aload rfl ?_
        refine qv_iconst (v := 0) rfl ?_
        refine qv_pi ly_163 ⟨rfl, rfl, rfl⟩ (rfl) ?_
        refine qv_aload rfl ?_
        refine qv_iload rfl ?_
        refine qv_virtE (ly_163.rcv _) sg_Model_isTree rfl rfl (r_M_isTree hP (by omega) t (hJ.thr.1 3 (by decide))) ?_
        refine qv_if_eq_f (bI_ne.mpr ((in_nI1 (by omega)).mpr hm)) (nx := 1) rfl ?_
        refine qW.blk rfl ?_
        refine qv_iload rfl ?_
        refine qv_staticE sg_Model_isEnd rfl (r_Model_isEnd hP (by omega) w _) ?_
        refine qv_if_ne_f (fun zq => zq (bI_f (hj))) (nx := 2) rfl ?_
        refine qW.blk rfl ?_
        refine qv_lconst (v := (-1)) rfl ?_
        refine qv_lret rfl ?_
        exact fin
      · refine qW.blk rfl ?_
        refine qv_aload rfl ?_
        refine qv_iconst (v := 0) rfl ?_
        refine qv_pi ly_163 ⟨rfl, rfl, rfl⟩ (rfl) ?_
        refine qv_aload rfl ?_
        refine qv_iload rfl ?_
        refine qv_virtE (ly_163.rcv _) sg_Model_isTree rfl rfl (r_M_isTree hP (by omega) t (hJ.thr.1 3 (by decide))) ?_
        refine qv_if_eq_t (bI_f (fun z => hn ((in_nI1 (by omega)).mp z))) (tgt := 2) rfl ?_
        refine qW.blk rfl ?_
        refine qv_lconst (v := (-1)) rfl ?_
        refine qv_lret rfl ?_
        exact fin
end
