/-! surely is alike -/
section
variable {X : pm_X} {PR : pm_P} {s : QST} {Q : QPost}
theorem bI_cg {p q : Prop} [Decidable p] [Decidable q] (h : p ↔ q) : bI p = bI q := by
  unfold bI
  by_cases hp : p
  · rw [if_pos hp, if_pos (h.mp hp)]
  · rw [if_neg hp, if_neg (fun z => hp (h.mpr z))]
/-- in every case (g = 1), or in one -/
abbrev inC (P : Nat → Prop) [∀ b, Decidable (P b)] (n g : Nat) : Prop := if g = 1 then bcnt P n = n else 0 < bcnt P n
theorem w_beatsIn (hP : pm_np PR) {d : Nat} (hd : 7 ≤ d) {C : Nat → Nat} (hc : cC s 9 C) (hC : CB C) {U : Nat → Nat} {z : Nat} (hU : U = fun i => (uns C (C 2)).getD i 0) (hz : z = (uns C (C 2)).length) {x y g : Nat} (hx : x < 7) (hy : y < 7) (hg : g < 2) (hk : ∀ s', qfr 74 116 s s' → Q (some (.int (bI (inC (fun b => gbts (wDbt (cvw C) C (dset U b z)) x y) (2 ^ z) g)))) s') : qP X PR d 86 [.ref 115, .int (nI x), .int (nI y), .int (nI g)] s Q := by
  have hM := hC.2.2.2.1
  have hu : unsB C U z := by rw [hU, hz]; exact uns_B
  have hz6 := hu.1
  have h6 := shl6 z (by omega)
  refine qP.of (L := [_, _, _, _, _, _]) (by omega) (hP _ rfl) ms_Plots_beatsIn rfl ?_
  show qW X PR (d - 1) (some .boolean) cd_Plots_beatsIn 0 _ _ _ _
  have loop : ∀ (c b p x0 : Nat) (s1 : QST), b + c = 2 ^ z → qfr 74 116 s s1 → (∀ m, btn x0 m → ∃ i, i < z ∧ U i = m) → hm s1 (wDbt (cvw C) C x0) p → vok (cvw C) p → (∀ i, i < z → qE s1 116 i = nI (U i)) → bcnt (fun b => gbts (wDbt (cvw C) C (dset U b z)) x y) b = (if g = 1 then b else 0) → qW X PR (d - 1) (some .boolean) cd_Plots_beatsIn 1 [some (.ref (115)), some (.int (nI x)), some (.int (nI y)), some (.int (nI g)), some (.int (nI z)), some (.int (nI b))] [] s1 Q := by
    intro c
    induction c with
    | zero =>
      intro b p x0 s1 hb F1 hx0 m1 v1 h1 hcn
      have eb : b = 2 ^ z := by omega
      subst eb
      have r : bI (inC (fun b => gbts (wDbt (cvw C) C (dset U b z)) x y) (2 ^ z) g) = nI g := by
        unfold inC
        by_cases g1 : g = 1
        · simp only [if_pos g1] at hcn ⊢
          rw [bI_t hcn, g1]; rfl
        · simp only [if_neg g1] at hcn ⊢
          rw [bI_f (by omega), show g = 0 by omega]; rfl
      have hret : pm_ret (some .boolean) (.int (nI g)) = true := by
        rcases (show g = 0 ∨ g = 1 by omega) with e | e <;> rw [e] <;> rfl
      have fin := hk s1 F1
      rw [r] at fin
      refine qW.blk rfl ?_
      refine qv_iload rfl ?_
      refine qv_iconst (v := 1) rfl ?_
      refine qv_iload rfl ?_
      refine qv_ishl ?_
      refine qv_icmp_ge_t (by rw [h6.1]; exact nI_le (Nat.le_refl _) (by omega)) (tgt := 8) rfl ?_
      refine qW.blk rfl ?_
      refine qv_iload rfl ?_
      refine qv_iret (hret) ?_
      exact fin
    | succ c ih =>
      intro b p x0 s1 hb F1 hx0 m1 v1 h1 hcn
      have h10 : ¬ (1 <<< (nI z &&& 31) : Int32) ≤ nI b := by rw [h6.1]; exact nI_ge (by omega) (by omega)
      have hc1 : cC s1 9 C := hc.cg F1 hM (by omega)
      have hx1 : ∀ m, btn (dset U b z) m → ∃ i, i < z ∧ U i = m := fun m hm => by
        obtain ⟨i, g1, g2, -⟩ := ((dset_btn (U := U) (b := b) (z := z) (fun i hi => by have := hu.2.1 i hi; omega) z (Nat.le_refl _)).2 m).mp hm
        exact ⟨i, g1, g2⟩
      have nx := fun s2 F2 m2 h2 h3 => ih (b + 1) p (dset U b z) s2 (by omega) F2 hx1 m2 v1 h2 h3
      rw [bcnt_s] at nx
      obtain ⟨lo, hi⟩ := bcnt_mono (P := fun b => gbts (wDbt (cvw C) C (dset U b z)) x y) (b := b + 1) c
      rw [show b + 1 + c = 2 ^ z by omega, bcnt_s] at lo hi
      by_cases hb1 : gbts (wDbt (cvw C) C (dset U b z)) x y
      · rw [if_pos hb1] at nx lo hi
        rcases (show g = 0 ∨ g = 1 by omega) with hg' | hg'
        · subst hg'
          have r : bI (inC (fun b => gbts (wDbt (cvw C) C (dset U b z)) x y) (2 ^ z) 0) = 1 := bI_t (by show 0 < _; omega)
          refine qW.blk rfl ?_
          refine qv_iload rfl ?_
          refine qv_iconst (v := 1) rfl ?_
          refine qv_iload rfl ?_
          refine qv_ishl ?_
          refine qv_icmp_ge_f (h10) (nx := 2) rfl ?_
          refine qW.blk rfl ?_
          refine qv_aload rfl ?_
          refine qv_iload rfl ?_
          refine qv_iload rfl ?_
          refine qv_virt (ly_115.rcv _) sg_Plots_suppose rfl rfl (w_suppose hP (by omega) hc1 hC hu h1 (by omega) hx0 m1 (fun s2 F2 f2 m2 => ?_)) 
          refine qv_pop2 ?_
          refine qv_aload rfl ?_
          refine qv_gr ly_115 ⟨rfl, rfl, rfl⟩ (by omega) ?_
          refine qv_iload rfl ?_
          refine qv_iload rfl ?_
          refine qv_virtE (ly_74.rcv _) sg_Hall_beats rfl rfl (r_beats hP (by omega) (m2.ok (wDbt_ok v1)) hx hy) ?_
          refine qv_iload rfl ?_
          refine qv_icmp_eq_f (fun z => bI_ne.mpr (((m2.ve (wDbt_ok v1)).bts hx hy).mpr hb1) z) (nx := 3) rfl ?_
          refine qW.blk rfl ?_
          refine qv_iload rfl ?_
          refine qv_if_ne_f (by decide) (nx := 4) rfl ?_
          refine qW.blk rfl ?_
          refine qv_iconst (v := 1) rfl ?_
          refine qv_goto (tgt := 6) rfl ?_
          refine qW.blk rfl ?_
          refine qv_iret (by first | exact bI_ret | rfl) ?_
          have fin := hk s2 (F1.trans (F2.mono (by omega) (by omega)))
          rw [r] at fin
          exact fin
        · subst hg'
          refine qW.blk rfl ?_
          refine qv_iload rfl ?_
          refine qv_iconst (v := 1) rfl ?_
          refine qv_iload rfl ?_
          refine qv_ishl ?_
          refine qv_icmp_ge_f (h10) (nx := 2) rfl ?_
          refine qW.blk rfl ?_
          refine qv_aload rfl ?_
          refine qv_iload rfl ?_
          refine qv_iload rfl ?_
          refine qv_virt (ly_115.rcv _) sg_Plots_suppose rfl rfl (w_suppose hP (by omega) hc1 hC hu h1 (by omega) hx0 m1 (fun s2 F2 f2 m2 => ?_)) 
          refine qv_pop2 ?_
          refine qv_aload rfl ?_
          refine qv_gr ly_115 ⟨rfl, rfl, rfl⟩ (by omega) ?_
          refine qv_iload rfl ?_
          refine qv_iload rfl ?_
          refine qv_virtE (ly_74.rcv _) sg_Hall_beats rfl rfl (r_beats hP (by omega) (m2.ok (wDbt_ok v1)) hx hy) ?_
          refine qv_iload rfl ?_
          refine qv_icmp_eq_t (bI_t (((m2.ve (wDbt_ok v1)).bts hx hy).mpr hb1)) (tgt := 7) rfl ?_
          refine qW.blk rfl ?_
          refine qv_iinc (L' := [_, _, _, _, _, _]) rfl (nI_succ _).symm rfl ?_
          refine qv_goto (tgt := 1) rfl ?_
          exact nx s2 (F1.trans (F2.mono (by omega) (by omega))) m2 (fun i hi => by rw [F2.e (by omega)]; exact h1 i hi) (by rw [hcn]; rfl)
      · rw [if_neg hb1] at nx lo hi
        rcases (show g = 0 ∨ g = 1 by omega) with hg' | hg'
        · subst hg'
          refine qW.blk rfl ?_
          refine qv_iload rfl ?_
          refine qv_iconst (v := 1) rfl ?_
          refine qv_iload rfl ?_
          refine qv_ishl ?_
          refine qv_icmp_ge_f (h10) (nx := 2) rfl ?_
          refine qW.blk rfl ?_
          refine qv_aload rfl ?_
          refine qv_iload rfl ?_
          refine qv_iload rfl ?_
          refine qv_virt (ly_115.rcv _) sg_Plots_suppose rfl rfl (w_suppose hP (by omega) hc1 hC hu h1 (by omega) hx0 m1 (fun s2 F2 f2 m2 => ?_)) 
          refine qv_pop2 ?_
          refine qv_aload rfl ?_
          refine qv_gr ly_115 ⟨rfl, rfl, rfl⟩ (by omega) ?_
          refine qv_iload rfl ?_
          refine qv_iload rfl ?_
          refine qv_virtE (ly_74.rcv _) sg_Hall_beats rfl rfl (r_beats hP (by omega) (m2.ok (wDbt_ok v1)) hx hy) ?_
          refine qv_iload rfl ?_
          refine qv_icmp_eq_t (bI_f (fun z => hb1 (((m2.ve (wDbt_ok v1)).bts hx hy).mp z))) (tgt := 7) rfl ?_
          refine qW.blk rfl ?_
          refine qv_iinc (L' := [_, _, _, _, _, _]) rfl (nI_succ _).symm rfl ?_
          refine qv_goto (tgt := 1) rfl ?_
          exact nx s2 (F1.trans (F2.mono (by omega) (by omega))) m2 (fun i hi => by rw [F2.e (by omega)]; exact h1 i hi) (by rw [hcn]; rfl)
        · subst hg'
          have hcn' : bcnt (fun b => gbts (wDbt (cvw C) C (dset U b z)) x y) b = b := hcn
          have r : bI (inC (fun b => gbts (wDbt (cvw C) C (dset U b z)) x y) (2 ^ z) 1) = 0 := bI_f (by show ¬ bcnt _ _ = _; omega)
          refine qW.blk rfl ?_
          refine qv_iload rfl ?_
          refine qv_iconst (v := 1) rfl ?_
          refine qv_iload rfl ?_
          refine qv_ishl ?_
          refine qv_icmp_ge_f (h10) (nx := 2) rfl ?_
          refine qW.blk rfl ?_
          refine qv_aload rfl ?_
          refine qv_iload rfl ?_
          refine qv_iload rfl ?_
          refine qv_virt (ly_115.rcv _) sg_Plots_suppose rfl rfl (w_suppose hP (by omega) hc1 hC hu h1 (by omega) hx0 m1 (fun s2 F2 f2 m2 => ?_)) 
          refine qv_pop2 ?_
          refine qv_aload rfl ?_
          refine qv_gr ly_115 ⟨rfl, rfl, rfl⟩ (by omega) ?_
          refine qv_iload rfl ?_
          refine qv_iload rfl ?_
          refine qv_virtE (ly_74.rcv _) sg_Hall_beats rfl rfl (r_beats hP (by omega) (m2.ok (wDbt_ok v1)) hx hy) ?_
          refine qv_iload rfl ?_
          refine qv_icmp_eq_f (fun q => absurd ((bI_f (fun z => hb1 (((m2.ve (wDbt_ok v1)).bts hx hy).mp z))).symm.trans q) (by decide)) (nx := 3) rfl ?_
          refine qW.blk rfl ?_
          refine qv_iload rfl ?_
          refine qv_if_ne_t (by decide) (tgt := 5) rfl ?_
          refine qW.blk rfl ?_
          refine qv_iconst (v := 0) rfl ?_
          refine qv_nil (nx := 6) rfl ?_
          refine qW.blk rfl ?_
          refine qv_iret (by first | exact bI_ret | rfl) ?_
          have fin := hk s2 (F1.trans (F2.mono (by omega) (by omega)))
          rw [r] at fin
          exact fin
  refine qW.blk rfl ?_
  refine qv_aload rfl ?_
  refine qv_virt (ly_115.rcv _) sg_Plots_seatDoubtful rfl rfl (w_seatDoubtful hP (by omega) hc hC (fun s1 p F1 m1 v1 h1 => ?_)) 
  refine qv_istore (L' := [_, _, _, _, _, _]) rfl ?_
  refine qv_iconst (v := 0) rfl ?_
  refine qv_istore (L' := [_, _, _, _, _, _]) rfl ?_
  refine qv_nil (nx := 1) rfl ?_
  rw [← hz] at h1 ⊢
  exact loop (2 ^ z) 0 p 0 s1 (by omega) F1 (fun m hm => absurd hm (btn0 m)) m1.d0 v1 (fun i hi => by rw [h1 i hi, hU]) (by split <;> rfl)
theorem Sim_surely (hP : pm_np PR) (v w q : Int32) : Sim X PR 147 239 [.int v, .int w, .int q] := by
  intro d A hd hA
  have hC := hA.1
  have hM := hC.2.2.2.1
  have h12 := hC.2.2.2.2.1
  by_cases h0 : ((∃ i, i ≤ 6 ∧ v = nI i) ∧ ∃ j, j ≤ 6 ∧ w = nI j) ∧ ∃ k, k ≤ 1 ∧ q = nI k
  · obtain ⟨⟨⟨x, hx, rfl⟩, y, hy, rfl⟩, k, hk1, rfl⟩ := h0
    have ix : nI 0 ≤ nI x ∧ nI x ≤ nI 6 := (w_iff (by omega) (by omega) (by omega)).mpr ⟨by omega, hx⟩
    have iy : nI 0 ≤ nI y ∧ nI y ≤ nI 6 := (w_iff (by omega) (by omega) (by omega)).mpr ⟨by omega, hy⟩
    have ik : nI 0 ≤ nI k ∧ nI k ≤ nI 1 := (w_iff (by omega) (by omega) (by omega)).mpr ⟨by omega, hk1⟩
    obtain ⟨U, hU⟩ : ∃ U : Nat → Nat, U = fun i => (uns (aC A) (aC A 2)).getD i 0 := ⟨_, rfl⟩
    obtain ⟨z, hz⟩ : ∃ z, z = (uns (aC A) (aC A 2)).length := ⟨_, rfl⟩
    have hu : unsB (aC A) U z := by rw [hU, hz]; exact uns_B
    have hz6 := hu.1
    have h6 := shl6 z (by omega)
    refine ⟨.int (bI (inC (fun b => gbts (wDbt (cvw (aC A)) (aC A) (dset U b z)) x y) (2 ^ z) (1 - k))), A, hA, ?_, ?_⟩
    · intro s Q hJ hk
      refine qP.of (L := [_, _, _, _]) (by omega) (hP _ rfl) ms_Desk_surely rfl ?_
      show qW X PR (d - 1) (some .int) cd_Desk_surely 0 _ _ _ _
      rcases (show k = 0 ∨ k = 1 by omega) with hk0 | hk0
      · subst hk0
        by_cases hr : inC (fun b => gbts (wDbt (cvw (aC A)) (aC A) (dset U b z)) x y) (2 ^ z) 1
        · refine qW.blk rfl ?_
          refine qv_iload rfl ?_
          refine qv_staticE sg_Desk_isEnd rfl (r_Desk_isEnd hP (by omega) (nI x) _) ?_
          refine qv_if_eq_f (bI_ne.mpr (ix)) (nx := 1) rfl ?_
          refine qW.blk rfl ?_
          refine qv_iload rfl ?_
          refine qv_staticE sg_Desk_isEnd rfl (r_Desk_isEnd hP (by omega) (nI y) _) ?_
          refine qv_if_eq_f (bI_ne.mpr (iy)) (nx := 2) rfl ?_
          refine qW.blk rfl ?_
          refine qv_iload rfl ?_
          refine qv_iconst (v := 0) rfl ?_
          refine qv_iconst (v := 1) rfl ?_
          refine qv_staticE sg_Desk_within rfl (r_Desk_within hP (by omega) (nI 0) (nI 0) (nI 1) _) ?_
          refine qv_if_ne_t (bI_ne.mpr (ik)) (tgt := 4) rfl ?_
          refine qW.blk rfl ?_
          refine qv_aload rfl ?_
          refine qv_gr ly_8 ⟨rfl, rfl, rfl⟩ (by omega) ?_
          refine qv_iload rfl ?_
          refine qv_iload rfl ?_
          refine qv_iload rfl ?_
          refine qv_if_ne_f (fun z => z rfl) (nx := 5) rfl ?_
          refine qW.blk rfl ?_
          refine qv_iconst (v := 1) rfl ?_
          refine qv_goto (tgt := 7) rfl ?_
          refine qW.blk rfl ?_
          refine qv_virt (ly_115.rcv _) sg_Plots_beatsIn rfl rfl (w_beatsIn hP (by omega) hJ.1 hC hU hz (by omega) (by omega) (show 1 < 2 by decide) (fun s1 F1 => ?_)) 
          refine qv_if_eq_f (bI_ne.mpr (hr)) (nx := 8) rfl ?_
          refine qW.blk rfl ?_
          refine qv_iconst (v := 1) rfl ?_
          refine qv_goto (tgt := 10) rfl ?_
          refine qW.blk rfl ?_
          refine qv_iret (rfl) ?_
          have fin := hk s1 (hJ.fr hA F1 (by omega)) (F1.c (by omega) (by omega))
          rw [bI_t hr] at fin
          exact fin
        · refine qW.blk rfl ?_
          refine qv_iload rfl ?_
          refine qv_staticE sg_Desk_isEnd rfl (r_Desk_isEnd hP (by omega) (nI x) _) ?_
          refine qv_if_eq_f (bI_ne.mpr (ix)) (nx := 1) rfl ?_
          refine qW.blk rfl ?_
          refine qv_iload rfl ?_
          refine qv_staticE sg_Desk_isEnd rfl (r_Desk_isEnd hP (by omega) (nI y) _) ?_
          refine qv_if_eq_f (bI_ne.mpr (iy)) (nx := 2) rfl ?_
          refine qW.blk rfl ?_
          refine qv_iload rfl ?_
          refine qv_iconst (v := 0) rfl ?_
          refine qv_iconst (v := 1) rfl ?_
          refine qv_staticE sg_Desk_within rfl (r_Desk_within hP (by omega) (nI 0) (nI 0) (nI 1) _) ?_
          refine qv_if_ne_t (bI_ne.mpr (ik)) (tgt := 4) rfl ?_
          refine qW.blk rfl ?_
          refine qv_aload rfl ?_
          refine qv_gr ly_8 ⟨rfl, rfl, rfl⟩ (by omega) ?_
          refine qv_iload rfl ?_
          refine qv_iload rfl ?_
          refine qv_iload rfl ?_
          refine qv_if_ne_f (fun z => z rfl) (nx := 5) rfl ?_
          refine qW.blk rfl ?_
          refine qv_iconst (v := 1) rfl ?_
          refine qv_goto (tgt := 7) rfl ?_
          refine qW.blk rfl ?_
          refine qv_virt (ly_115.rcv _) sg_Plots_beatsIn rfl rfl (w_beatsIn hP (by omega) hJ.1 hC hU hz (by omega) (by omega) (show 1 < 2 by decide) (fun s1 F1 => ?_)) 
          refine qv_if_eq_t (bI_f (hr)) (tgt := 9) rfl ?_
          refine qW.blk rfl ?_
          refine qv_iconst (v := 0) rfl ?_
          refine qv_nil (nx := 10) rfl ?_
          refine qW.blk rfl ?_
          refine qv_iret (rfl) ?_
          have fin := hk s1 (hJ.fr hA F1 (by omega)) (F1.c (by omega) (by omega))
          rw [bI_f hr] at fin
          exact fin
      · subst hk0
        by_cases hr : inC (fun b => gbts (wDbt (cvw (aC A)) (aC A) (dset U b z)) x y) (2 ^ z) 0
        · refine qW.blk rfl ?_
          refine qv_iload rfl ?_
          refine qv_staticE sg_Desk_isEnd rfl (r_Desk_isEnd hP (by omega) (nI x) _) ?_
          refine qv_if_eq_f (bI_ne.mpr (ix)) (nx := 1) rfl ?_
          refine qW.blk rfl ?_
          refine qv_iload rfl ?_
          refine qv_staticE sg_Desk_isEnd rfl (r_Desk_isEnd hP (by omega) (nI y) _) ?_
          refine qv_if_eq_f (bI_ne.mpr (iy)) (nx := 2) rfl ?_
          refine qW.blk rfl ?_
          refine qv_iload rfl ?_
          refine qv_iconst (v := 0) rfl ?_
          refine qv_iconst (v := 1) rfl ?_
          refine qv_staticE sg_Desk_within rfl (r_Desk_within hP (by omega) (nI 1) (nI 0) (nI 1) _) ?_
          refine qv_if_ne_t (bI_ne.mpr (ik)) (tgt := 4) rfl ?_
          refine qW.blk rfl ?_
          refine qv_aload rfl ?_
          refine qv_gr ly_8 ⟨rfl, rfl, rfl⟩ (by omega) ?_
          refine qv_iload rfl ?_
          refine qv_iload rfl ?_
          refine qv_iload rfl ?_
          refine qv_if_ne_t (by decide) (tgt := 6) rfl ?_
          refine qW.blk rfl ?_
          refine qv_iconst (v := 0) rfl ?_
          refine qv_nil (nx := 7) rfl ?_
          refine qW.blk rfl ?_
          refine qv_virt (ly_115.rcv _) sg_Plots_beatsIn rfl rfl (w_beatsIn hP (by omega) hJ.1 hC hU hz (by omega) (by omega) (show 0 < 2 by decide) (fun s1 F1 => ?_)) 
          refine qv_if_eq_f (bI_ne.mpr (hr)) (nx := 8) rfl ?_
          refine qW.blk rfl ?_
          refine qv_iconst (v := 1) rfl ?_
          refine qv_goto (tgt := 10) rfl ?_
          refine qW.blk rfl ?_
          refine qv_iret (rfl) ?_
          have fin := hk s1 (hJ.fr hA F1 (by omega)) (F1.c (by omega) (by omega))
          rw [bI_t hr] at fin
          exact fin
        · refine qW.blk rfl ?_
          refine qv_iload rfl ?_
          refine qv_staticE sg_Desk_isEnd rfl (r_Desk_isEnd hP (by omega) (nI x) _) ?_
          refine qv_if_eq_f (bI_ne.mpr (ix)) (nx := 1) rfl ?_
          refine qW.blk rfl ?_
          refine qv_iload rfl ?_
          refine qv_staticE sg_Desk_isEnd rfl (r_Desk_isEnd hP (by omega) (nI y) _) ?_
          refine qv_if_eq_f (bI_ne.mpr (iy)) (nx := 2) rfl ?_
          refine qW.blk rfl ?_
          refine qv_iload rfl ?_
          refine qv_iconst (v := 0) rfl ?_
          refine qv_iconst (v := 1) rfl ?_
          refine qv_staticE sg_Desk_within rfl (r_Desk_within hP (by omega) (nI 1) (nI 0) (nI 1) _) ?_
          refine qv_if_ne_t (bI_ne.mpr (ik)) (tgt := 4) rfl ?_
          refine qW.blk rfl ?_
          refine qv_aload rfl ?_
          refine qv_gr ly_8 ⟨rfl, rfl, rfl⟩ (by omega) ?_
          refine qv_iload rfl ?_
          refine qv_iload rfl ?_
          refine qv_iload rfl ?_
          refine qv_if_ne_t (by decide) (tgt := 6) rfl ?_
          refine qW.blk rfl ?_
          refine qv_iconst (v := 0) rfl ?_
          refine qv_nil (nx := 7) rfl ?_
          refine qW.blk rfl ?_
          refine qv_virt (ly_115.rcv _) sg_Plots_beatsIn rfl rfl (w_beatsIn hP (by omega) hJ.1 hC hU hz (by omega) (by omega) (show 0 < 2 by decide) (fun s1 F1 => ?_)) 
          refine qv_if_eq_t (bI_f (hr)) (tgt := 9) rfl ?_
          refine qW.blk rfl ?_
          refine qv_iconst (v := 0) rfl ?_
          refine qv_nil (nx := 10) rfl ?_
          refine qW.blk rfl ?_
          refine qv_iret (rfl) ?_
          have fin := hk s1 (hJ.fr hA F1 (by omega)) (F1.c (by omega) (by omega))
          rw [bI_f hr] at fin
          exact fin
    · intro s Q hJ hk
      have J1 := hJ.thr (v := 0)
      refine qP.of (L := [_, _, _, _, _, _, _, _]) (by omega) (hP _ rfl) ms_Model_surely rfl ?_
      show qW X PR (d - 1) (some .int) cd_Model_surely 0 _ _ _ _
      have loop : ∀ (c b : Nat) (s1 : QST) (L7 : Option Value), b + c = 2 ^ z → kfr 30 (uF s 163 0 0) s1 → (∀ i, i < z → qE s1 193 i = nI (U i)) → qW X PR (d - 1) (some .int) cd_Model_surely 5 [some (.ref (163)), some (.int (nI x)), some (.int (nI y)), some (.int (nI k)), some (.int (nI z)), some (.int (nI (bcnt (fun b => gbts (wDbt (cvw (aC A)) (aC A) (dset U b z)) x y) b))), some (.int (nI b)), L7] [] s1 Q := by
        intro c
        induction c with
        | zero =>
          intro b s1 L7 hb F1 h1
          have eb : b = 2 ^ z := by omega
          subst eb
          have F := (F1.sF (k := 30) (v := 0) (by omega)).done (by rw [qF_uFs]; exact J1.2.2.2.2.2.2.2.1.symm)
          have fin := hk _ (J1.fr F) (((qfr.rf s).uF (by omega)).trans F.1)
          have hle := bcnt_le (P := fun b => gbts (wDbt (cvw (aC A)) (aC A) (dset U b z)) x y) (2 ^ z)
          rcases (show k = 0 ∨ k = 1 by omega) with hk0 | hk0
          · subst hk0
            by_cases hr : bcnt (fun b => gbts (wDbt (cvw (aC A)) (aC A) (dset U b z)) x y) (2 ^ z) = 2 ^ z
            · have hr' : inC (fun b => gbts (wDbt (cvw (aC A)) (aC A) (dset U b z)) x y) (2 ^ z) (1 - 0) := hr
              rw [bI_t hr'] at fin
              refine qW.blk rfl ?_
              refine qv_iload rfl ?_
              refine qv_iconst (v := 1) rfl ?_
              refine qv_iload rfl ?_
              refine qv_ishl ?_
              refine qv_icmp_ge_t (by rw [h6.1]; exact nI_le (Nat.le_refl _) (by omega)) (tgt := 16) rfl ?_
              refine qW.blk rfl ?_
              refine qv_aload rfl ?_
              refine qv_iconst (v := 0) rfl ?_
              refine qv_pi ly_163 ⟨rfl, rfl, rfl⟩ (rfl) ?_
              refine qv_iload rfl ?_
              refine qv_if_ne_f (fun z => z rfl) (nx := 17) rfl ?_
              refine qW.blk rfl ?_
              refine qv_iload rfl ?_
              refine qv_iconst (v := 1) rfl ?_
              refine qv_iload rfl ?_
              refine qv_ishl ?_
              refine qv_icmp_ne_f (by rw [h6.1, hr]; exact fun z => z rfl) (nx := 18) rfl ?_
              refine qW.blk rfl ?_
              refine qv_iconst (v := 1) rfl ?_
              refine qv_goto (tgt := 23) rfl ?_
              refine qW.blk rfl ?_
              refine qv_iret (rfl) ?_
              exact fin
            · have hr' : ¬ inC (fun b => gbts (wDbt (cvw (aC A)) (aC A) (dset U b z)) x y) (2 ^ z) (1 - 0) := hr
              rw [bI_f hr'] at fin
              refine qW.blk rfl ?_
              refine qv_iload rfl ?_
              refine qv_iconst (v := 1) rfl ?_
              refine qv_iload rfl ?_
              refine qv_ishl ?_
              refine qv_icmp_ge_t (by rw [h6.1]; exact nI_le (Nat.le_refl _) (by omega)) (tgt := 16) rfl ?_
              refine qW.blk rfl ?_
              refine qv_aload rfl ?_
              refine qv_iconst (v := 0) rfl ?_
              refine qv_pi ly_163 ⟨rfl, rfl, rfl⟩ (rfl) ?_
              refine qv_iload rfl ?_
              refine qv_if_ne_f (fun z => z rfl) (nx := 17) rfl ?_
              refine qW.blk rfl ?_
              refine qv_iload rfl ?_
              refine qv_iconst (v := 1) rfl ?_
              refine qv_iload rfl ?_
              refine qv_ishl ?_
              refine qv_icmp_ne_t (by rw [h6.1]; exact fun z => hr ((nI_eq (by omega) (by omega)).mp z)) (tgt := 19) rfl ?_
              refine qW.blk rfl ?_
              refine qv_iconst (v := 0) rfl ?_
              refine qv_goto (tgt := 23) rfl ?_
              refine qW.blk rfl ?_
              refine qv_iret (rfl) ?_
              exact fin
          · subst hk0
            by_cases hr : 0 < bcnt (fun b => gbts (wDbt (cvw (aC A)) (aC A) (dset U b z)) x y) (2 ^ z)
            · have hr' : inC (fun b => gbts (wDbt (cvw (aC A)) (aC A) (dset U b z)) x y) (2 ^ z) (1 - 1) := hr
              rw [bI_t hr'] at fin
              refine qW.blk rfl ?_
              refine qv_iload rfl ?_
              refine qv_iconst (v := 1) rfl ?_
              refine qv_iload rfl ?_
              refine qv_ishl ?_
              refine qv_icmp_ge_t (by rw [h6.1]; exact nI_le (Nat.le_refl _) (by omega)) (tgt := 16) rfl ?_
              refine qW.blk rfl ?_
              refine qv_aload rfl ?_
              refine qv_iconst (v := 0) rfl ?_
              refine qv_pi ly_163 ⟨rfl, rfl, rfl⟩ (rfl) ?_
              refine qv_iload rfl ?_
              refine qv_if_ne_t (by decide) (tgt := 20) rfl ?_
              refine qW.blk rfl ?_
              refine qv_iload rfl ?_
              refine qv_if_le_f (nI_nle hr (by omega)) (nx := 21) rfl ?_
              refine qW.blk rfl ?_
              refine qv_iconst (v := 1) rfl ?_
              refine qv_goto (tgt := 23) rfl ?_
              refine qW.blk rfl ?_
              refine qv_iret (rfl) ?_
              exact fin
            · have hr' : ¬ inC (fun b => gbts (wDbt (cvw (aC A)) (aC A) (dset U b z)) x y) (2 ^ z) (1 - 1) := hr
              rw [bI_f hr'] at fin
              have e0 : bcnt (fun b => gbts (wDbt (cvw (aC A)) (aC A) (dset U b z)) x y) (2 ^ z) = 0 := by omega
              refine qW.blk rfl ?_
              refine qv_iload rfl ?_
              refine qv_iconst (v := 1) rfl ?_
              refine qv_iload rfl ?_
              refine qv_ishl ?_
              refine qv_icmp_ge_t (by rw [h6.1]; exact nI_le (Nat.le_refl _) (by omega)) (tgt := 16) rfl ?_
              refine qW.blk rfl ?_
              refine qv_aload rfl ?_
              refine qv_iconst (v := 0) rfl ?_
              refine qv_pi ly_163 ⟨rfl, rfl, rfl⟩ (rfl) ?_
              refine qv_iload rfl ?_
              refine qv_if_ne_t (by decide) (tgt := 20) rfl ?_
              refine qW.blk rfl ?_
              refine qv_iload rfl ?_
              refine qv_if_le_t (by rw [e0]; decide) (tgt := 22) rfl ?_
              refine qW.blk rfl ?_
              refine qv_iconst (v := 0) rfl ?_
              refine qv_nil (nx := 23) rfl ?_
              refine qW.blk rfl ?_
              refine qv_iret (rfl) ?_
              exact fin
        | succ c ih =>
          intro b s1 L7 hb F1 h1
          have h10 : ¬ (1 <<< (nI z &&& 31) : Int32) ≤ nI b := by rw [h6.1]; exact nI_ge (by omega) (by omega)
          have hdb := dset_btn (U := U) (b := b) (z := z) (fun i hi => by have := hu.2.1 i hi; omega)
          have inner : ∀ (c2 i : Nat) (s2 : QST), i + c2 = z → kfr 30 (uF s 163 0 0) s2 → (∀ i, i < z → qE s2 193 i = nI (U i)) → qF s2 163 30 = nI (dset U b i) → qW X PR (d - 1) (some .int) cd_Model_surely 7 [some (.ref (163)), some (.int (nI x)), some (.int (nI y)), some (.int (nI k)), some (.int (nI z)), some (.int (nI (bcnt (fun b => gbts (wDbt (cvw (aC A)) (aC A) (dset U b z)) x y) b))), some (.int (nI b)), some (.int (nI i))] [] s2 Q := by
            intro c2
            induction c2 with
            | zero =>
              intro i s2 hi F2 h2 x2
              have ei : i = z := by omega
              subst ei
              have K2 := J1.k F2
              have rv := rview_dbt K2.1 hC K2.2.2 (hdb i (Nat.le_refl _)).1 x2
              have nx := ih (b + 1) s2 (some (.int (nI i))) (by omega) F2 h2
              rw [bcnt_s] at nx
              by_cases hg : gbts (wDbt (cvw (aC A)) (aC A) (dset U b i)) x y
              · rw [if_pos hg] at nx
                refine qW.blk rfl ?_
                refine qv_iload rfl ?_
                refine qv_iload rfl ?_
                refine qv_icmp_geNt rfl rfl (by omega) (by omega) (by omega) (tgt := 12) rfl ?_
                refine qW.blk rfl ?_
                refine qv_iload rfl ?_
                refine qv_aload rfl ?_
                refine qv_iload rfl ?_
                refine qv_iload rfl ?_
                refine qv_virtE (ly_163.rcv _) sg_Model_beats rfl rfl (r_M_bts hP (by omega) rv (by omega) (by omega)) ?_
                refine qv_if_eq_f (bI_ne.mpr (hg)) (nx := 13) rfl ?_
                refine qW.blk rfl ?_
                refine qv_iconst (v := 1) rfl ?_
                refine qv_goto (tgt := 15) rfl ?_
                refine qW.blk rfl ?_
                refine qv_iaddN (q := 1) rfl rfl ?_
                refine qv_istore (L' := [_, _, _, _, _, _, _, _]) rfl ?_
                refine qv_iinc (L' := [_, _, _, _, _, _, _, _]) rfl (nI_succ _).symm rfl ?_
                refine qv_goto (tgt := 5) rfl ?_
                exact nx
              · rw [if_neg hg] at nx
                refine qW.blk rfl ?_
                refine qv_iload rfl ?_
                refine qv_iload rfl ?_
                refine qv_icmp_geNt rfl rfl (by omega) (by omega) (by omega) (tgt := 12) rfl ?_
                refine qW.blk rfl ?_
                refine qv_iload rfl ?_
                refine qv_aload rfl ?_
                refine qv_iload rfl ?_
                refine qv_iload rfl ?_
                refine qv_virtE (ly_163.rcv _) sg_Model_beats rfl rfl (r_M_bts hP (by omega) rv (by omega) (by omega)) ?_
                refine qv_if_eq_t (bI_f (hg)) (tgt := 14) rfl ?_
                refine qW.blk rfl ?_
                refine qv_iconst (v := 0) rfl ?_
                refine qv_nil (nx := 15) rfl ?_
                refine qW.blk rfl ?_
                refine qv_iaddN (q := 0) rfl rfl ?_
                refine qv_istore (L' := [_, _, _, _, _, _, _, _]) rfl ?_
                refine qv_iinc (L' := [_, _, _, _, _, _, _, _]) rfl (nI_succ _).symm rfl ?_
                refine qv_goto (tgt := 5) rfl ?_
                exact nx
            | succ c2 ih2 =>
              intro i s2 hi F2 h2 x2
              obtain ⟨u, hue⟩ : ∃ u, U i = u := ⟨_, rfl⟩
              have hu2 : u < aC A 2 := by rw [← hue]; exact hu.2.1 i (by omega)
              have eU : qE s2 193 i = nI u := by rw [h2 i (by omega), hue]
              have nx := fun s3 F3 h3 x3 => ih2 (i + 1) s3 (by omega) F3 h3 x3
              have d1 := (hdb i (by omega)).1
              by_cases hbi : btn b i
              · have x1 : nI (dset U b i) ||| (1 <<< (nI u &&& 31)) = nI (dset U b (i + 1)) := by
                  rw [(or9 u (by omega) _ d1).1]
                  show _ = nI (if btn b i then dset U b i ||| 2 ^ U i else dset U b i)
                  rw [if_pos hbi, hue]
                refine qW.blk rfl ?_
                refine qv_iload rfl ?_
                refine qv_iload rfl ?_
                refine qv_icmp_geNf rfl rfl (by omega) (by omega) (by omega) (nx := 8) rfl ?_
                refine qW.blk rfl ?_
                refine qv_aload rfl ?_
                refine qv_dup rfl ?_
                refine qv_gi ly_163 ⟨rfl, rfl, rfl⟩ (x2) ?_
                refine qv_iload rfl ?_
                refine qv_iload rfl ?_
                refine qv_ishr ?_
                refine qv_iconst (v := 1) rfl ?_
                refine qv_iand ?_
                refine qv_iconst (v := 1) rfl ?_
                refine qv_icmp_ne_f (fun z => z ((bit_is (by omega) (by omega)).mpr hbi)) (nx := 9) rfl ?_
                refine qW.blk rfl ?_
                refine qv_iconst (v := 1) rfl ?_
                refine qv_aload rfl ?_
                refine qv_gr ly_163 ⟨rfl, rfl, rfl⟩ (by omega) ?_
                refine qv_iload rfl ?_
                refine qv_ia ly_193 rfl (by omega) (by decide) (eU) ?_
                refine qv_ishl ?_
                refine qv_goto (tgt := 11) rfl ?_
                refine qW.blk rfl ?_
                refine qv_ior ?_
                refine qv_top (x1) ?_
                refine qv_pi ly_163 ⟨rfl, rfl, rfl⟩ (rfl) ?_
                refine qv_iinc (L' := [_, _, _, _, _, _, _, _]) rfl (nI_succ _).symm rfl ?_
                refine qv_goto (tgt := 7) rfl ?_
                exact nx _ (F2.sF (by omega)) h2 qF_uFs
              · have x1 : nI (dset U b i) ||| 0 = nI (dset U b (i + 1)) := by
                  show _ = nI (if btn b i then dset U b i ||| 2 ^ U i else dset U b i)
                  rw [if_neg hbi, Int32.or_zero]
                refine qW.blk rfl ?_
                refine qv_iload rfl ?_
                refine qv_iload rfl ?_
                refine qv_icmp_geNf rfl rfl (by omega) (by omega) (by omega) (nx := 8) rfl ?_
                refine qW.blk rfl ?_
                refine qv_aload rfl ?_
                refine qv_dup rfl ?_
                refine qv_gi ly_163 ⟨rfl, rfl, rfl⟩ (x2) ?_
                refine qv_iload rfl ?_
                refine qv_iload rfl ?_
                refine qv_ishr ?_
                refine qv_iconst (v := 1) rfl ?_
                refine qv_iand ?_
                refine qv_iconst (v := 1) rfl ?_
                refine qv_icmp_ne_t (fun z => hbi ((bit_is (by omega) (by omega)).mp z)) (tgt := 10) rfl ?_
                refine qW.blk rfl ?_
                refine qv_iconst (v := 0) rfl ?_
                refine qv_nil (nx := 11) rfl ?_
                refine qW.blk rfl ?_
                refine qv_ior ?_
                refine qv_top (x1) ?_
                refine qv_pi ly_163 ⟨rfl, rfl, rfl⟩ (rfl) ?_
                refine qv_iinc (L' := [_, _, _, _, _, _, _, _]) rfl (nI_succ _).symm rfl ?_
                refine qv_goto (tgt := 7) rfl ?_
                exact nx _ (F2.sF (by omega)) h2 qF_uFs
          refine qW.blk rfl ?_
          refine qv_iload rfl ?_
          refine qv_iconst (v := 1) rfl ?_
          refine qv_iload rfl ?_
          refine qv_ishl ?_
          refine qv_icmp_ge_f (h10) (nx := 6) rfl ?_
          refine qW.blk rfl ?_
          refine qv_aload rfl ?_
          refine qv_iconst (v := 0) rfl ?_
          refine qv_pi ly_163 ⟨rfl, rfl, rfl⟩ (rfl) ?_
          refine qv_iconst (v := 0) rfl ?_
          refine qv_istore (L' := [_, _, _, _, _, _, _, _]) rfl ?_
          refine qv_nil (nx := 7) rfl ?_
          exact inner z 0 _ (by omega) (F1.sF (by omega)) h1 qF_uFs
      refine qW.blk rfl ?_
      refine qv_aload rfl ?_
      refine qv_iconst (v := 0) rfl ?_
      refine qv_pi ly_163 ⟨rfl, rfl, rfl⟩ (rfl) ?_
      refine qv_iload rfl ?_
      refine qv_staticE sg_Model_isEnd rfl (r_Model_isEnd hP (by omega) (nI x) _) ?_
      refine qv_if_eq_f (bI_ne.mpr (ix)) (nx := 1) rfl ?_
      refine qW.blk rfl ?_
      refine qv_iload rfl ?_
      refine qv_staticE sg_Model_isEnd rfl (r_Model_isEnd hP (by omega) (nI y) _) ?_
      refine qv_if_eq_f (bI_ne.mpr (iy)) (nx := 2) rfl ?_
      refine qW.blk rfl ?_
      refine qv_iload rfl ?_
      refine qv_iconst (v := 0) rfl ?_
      refine qv_iconst (v := 1) rfl ?_
      refine qv_staticE sg_Model_in rfl (r_Model_in hP (by omega) (nI k) (nI 0) (nI 1) _) ?_
      refine qv_if_ne_t (bI_ne.mpr (ik)) (tgt := 4) rfl ?_
      refine qW.blk rfl ?_
      refine qv_aload rfl ?_
      refine qv_virt (ly_163.rcv _) sg_Model_findUnsure rfl rfl (w_findUnsure hP (by omega) J1.1 hC (fun s1 F1 f1 h1 => ?_)) 
      refine qv_istore (L' := [_, _, _, _, _, _, _, _]) rfl ?_
      refine qv_iconst (v := 0) rfl ?_
      refine qv_istore (L' := [_, _, _, _, _, _, _, _]) rfl ?_
      refine qv_iconst (v := 0) rfl ?_
      refine qv_istore (L' := [_, _, _, _, _, _, _, _]) rfl ?_
      refine qv_nil (nx := 5) rfl ?_
      rw [← hz] at h1 ⊢
      exact loop (2 ^ z) 0 s1 _ (by omega) F1 (fun i hi => by rw [h1 i hi, hU])
  · refine ⟨.int (-1), A, hA, ?_, ?_⟩
    · intro s Q hJ hk
      have fin := hk s hJ (cfr.rf s)
      refine qP.of (L := [_, _, _, _]) (by omega) (hP _ rfl) ms_Desk_surely rfl ?_
      show qW X PR (d - 1) (some .int) cd_Desk_surely 0 _ _ _ _
      by_cases hi : 0 ≤ v ∧ v ≤ nI 6
      · by_cases hj : 0 ≤ w ∧ w ≤ nI 6
        · have hq : ¬ (0 ≤ q ∧ q ≤ nI 1) := fun z => h0 ⟨⟨(in_nI (n := 6) (by omega)).mp hi, (in_nI (n := 6) (by omega)).mp hj⟩, (in_nI (n := 1) (by omega)).mp z⟩
          refine qW.blk rfl ?_
          refine qv_iload rfl ?_
          refine qv_staticE sg_Desk_isEnd rfl (r_Desk_isEnd hP (by omega) v _) ?_
          refine qv_if_eq_f (bI_ne.mpr (hi)) (nx := 1) rfl ?_
          refine qW.blk rfl ?_
          refine qv_iload rfl ?_
          refine qv_staticE sg_Desk_isEnd rfl (r_Desk_isEnd hP (by omega) w _) ?_
          refine qv_if_eq_f (bI_ne.mpr (hj)) (nx := 2) rfl ?_
          refine qW.blk rfl ?_
          refine qv_iload rfl ?_
          refine qv_iconst (v := 0) rfl ?_
          refine qv_iconst (v := 1) rfl ?_
          refine qv_staticE sg_Desk_within rfl (r_Desk_within hP (by omega) q 0 (nI 1) _) ?_
          refine qv_if_ne_f (fun zq => zq (bI_f (hq))) (nx := 3) rfl ?_
          refine qW.blk rfl ?_
          refine qv_iconst (v := (-1)) rfl ?_
          refine qv_iret (rfl) ?_
          exact fin
        · refine qW.blk rfl ?_
          refine qv_iload rfl ?_
          refine qv_staticE sg_Desk_isEnd rfl (r_Desk_isEnd hP (by omega) v _) ?_
          refine qv_if_eq_f (bI_ne.mpr (hi)) (nx := 1) rfl ?_
          refine qW.blk rfl ?_
          refine qv_iload rfl ?_
          refine qv_staticE sg_Desk_isEnd rfl (r_Desk_isEnd hP (by omega) w _) ?_
          refine qv_if_eq_t (bI_f (hj)) (tgt := 3) rfl ?_
          refine qW.blk rfl ?_
          refine qv_iconst (v := (-1)) rfl ?_
          refine qv_iret (rfl) ?_
          exact fin
      · refine qW.blk rfl ?_
        refine qv_iload rfl ?_
        refine qv_staticE sg_Desk_isEnd rfl (r_Desk_isEnd hP (by omega) v _) ?_
        refine qv_if_eq_t (bI_f (hi)) (tgt := 3) rfl ?_
        refine qW.blk rfl ?_
        refine qv_iconst (v := (-1)) rfl ?_
        refine qv_iret (rfl) ?_
        exact fin
    · intro s Q hJ hk
      have fin := hk (uF s 163 0 0) hJ.thr ((qfr.rf s).uF (by omega))
      refine qP.of (L := [_, _, _, _, _, _, _, _]) (by omega) (hP _ rfl) ms_Model_surely rfl ?_
      show qW X PR (d - 1) (some .int) cd_Model_surely 0 _ _ _ _
      by_cases hi : 0 ≤ v ∧ v ≤ nI 6
      · by_cases hj : 0 ≤ w ∧ w ≤ nI 6
        · have hq : ¬ (0 ≤ q ∧ q ≤ nI 1) := fun z => h0 ⟨⟨(in_nI (n := 6) (by omega)).mp hi, (in_nI (n := 6) (by omega)).mp hj⟩, (in_nI (n := 1) (by omega)).mp z⟩
          refine qW.blk rfl ?_
          refine qv_aload rfl ?_
          refine qv_iconst (v := 0) rfl ?_
          refine qv_pi ly_163 ⟨rfl, rfl, rfl⟩ (rfl) ?_
          refine qv_iload rfl ?_
          refine qv_staticE sg_Model_isEnd rfl (r_Model_isEnd hP (by omega) v _) ?_
          refine qv_if_eq_f (bI_ne.mpr (hi)) (nx := 1) rfl ?_
          refine qW.blk rfl ?_
          refine qv_iload rfl ?_
          refine qv_staticE sg_Model_isEnd rfl (r_Model_isEnd hP (by omega) w _) ?_
          refine qv_if_eq_f (bI_ne.mpr (hj)) (nx := 2) rfl ?_
          refine qW.blk rfl ?_
          refine qv_iload rfl ?_
          refine qv_iconst (v := 0) rfl ?_
          refine qv_iconst (v := 1) rfl ?_
          refine qv_staticE sg_Model_in rfl (r_Model_in hP (by omega) q 0 (nI 1) _) ?_
          refine qv_if_ne_f (fun zq => zq (bI_f (hq))) (nx := 3) rfl ?_
          refine qW.blk rfl ?_
          refine qv_iconst (v := (-1)) rfl ?_
          refine qv_iret (rfl) ?_
          exact fin
        · refine qW.blk rfl ?_
          refine qv_aload rfl ?_
          refine qv_iconst (v := 0) rfl ?_
          refine qv_pi ly_163 ⟨rfl, rfl, rfl⟩ (rfl) ?_
          refine qv_iload rfl ?_
          refine qv_staticE sg_Model_isEnd rfl (r_Model_isEnd hP (by omega) v _) ?_
          refine qv_if_eq_f (bI_ne.mpr (hi)) (nx := 1) rfl ?_
          refine qW.blk rfl ?_
          refine qv_iload rfl ?_
          refine qv_staticE sg_Model_isEnd rfl (r_Model_isEnd hP (by omega) w _) ?_
          refine qv_if_eq_t (bI_f (hj)) (tgt := 3) rfl ?_
          refine qW.blk rfl ?_
          refine qv_iconst (v := (-1)) rfl ?_
          refine qv_iret (rfl) ?_
          exact fin
      · refine qW.blk rfl ?_
        refine qv_aload rfl ?_
        refine qv_iconst (v := 0) rfl ?_
        refine qv_pi ly_163 ⟨rfl, rfl, rfl⟩ (rfl) ?_
        refine qv_iload rfl ?_
        refine qv_staticE sg_Model_isEnd rfl (r_Model_isEnd hP (by omega) v _) ?_
        refine qv_if_eq_t (bI_f (hi)) (tgt := 3) rfl ?_
        refine qW.blk rfl ?_
        refine qv_iconst (v := (-1)) rfl ?_
        refine qv_iret (rfl) ?_
        exact fin
end
