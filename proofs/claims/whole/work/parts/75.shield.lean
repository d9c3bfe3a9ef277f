/-! shields is alike -/
def shi (W : VW) (g : NV) (x z : Nat) : Prop := (gq W (gq W g (nv_leaf x)) (nv_leaf z)).2.1 = g.2.1
section
variable {X : pm_X} {PR : pm_P} {s : QST} {Q : QPost}
theorem w_shieldBits (hP : pm_np PR) {d : Nat} (hd : 6 ≤ d) {N p K E y : Nat} (hh : hok s N p) (hE : E ≤ 7) (hy : y < 7) {W : VW} (hW : veq (fun x => x < 7) (hvw s N) W) {g : NV} (hg : hnd s p 0 g) (hgD : nvD (fun x => x < 7) g) (hK0 : 0 < K) (hK : K ≤ 60) [hdec : ∀ x, Decidable (shi W g y x)] (hk : ∀ s', qfr 76 82 s s' → Q (some (.int (nI (bsN (shi W g y) E)))) s') : qP X PR d 31 [.ref 74, .int (nI K), .int (nI y), .int (nI E)] s Q := by
  refine qP.of (L := [_, _, _, _, _, _, _]) (by omega) (hP _ rfl) ms_Hall_shieldBits rfl ?_
  show qW X PR (d - 1) (some .int) cd_Hall_shieldBits 0 _ _ _ _
  have hp5 := hh.2.2.2.1
  have nyD : nvD (fun x => x < 7) (gq W g (nv_leaf y)) := gq_D hgD (leaf_D hy)
  have ny : nve (gq (hvw s N) g (nv_leaf y)) (gq W g (nv_leaf y)) := hW.q hh.u hgD (leaf_D hy) (nve.rf _) (nve.rf _)
  have loop : ∀ (k x : Nat) (s1 : QST), x + k = E → qfr 76 82 s s1 → hnd s1 p 0 g → hnd s1 p (K + 1) (gq W g (nv_leaf y)) → qW X PR (d - 1) (some .int) cd_Hall_shieldBits 1 [some (.ref (74)), some (.int (nI K)), some (.int (nI y)), some (.int (nI E)), some (.int (nI (K + 1))), some (.int (nI (bsN (shi W g y) x))), some (.int (nI x))] [] s1 Q := by
    intro k
    induction k with
    | zero =>
      intro x s1 hx F1 h1 _
      have e : x = E := by omega
      subst e
      refine qW.blk rfl ?_
      refine qv_iload rfl ?_
      refine qv_iload rfl ?_
      refine qv_icmp_geNt rfl rfl (by omega) (by omega) (by omega) (tgt := 5) rfl ?_
      refine qW.blk rfl ?_
      refine qv_iload rfl ?_
      refine qv_iret (rfl) ?_
      exact hk s1 F1
    | succ k ih =>
      intro x s1 hx F1 h1 h1'
      have eh : hok s1 N p := hh.cg F1 (by omega) (by omega)
      have ew : hvw s1 N = hvw s N := hvw_cg F1 (by omega) (by omega) N
      have hq : (gq (hvw s N) (gq W g (nv_leaf y)) (nv_leaf x)).2.1 = (gq W (gq W g (nv_leaf y)) (nv_leaf x)).2.1 := (hW.q hh.u nyD (leaf_D (show x < 7 by omega)) (nve.rf _) (nve.rf _)).2.1
      have nx : ∀ s2 v, qfr 76 82 s1 s2 → hnd s2 p 0 g → hnd s2 p (K + 1) (gq W g (nv_leaf y)) → v = bsN (shi W g y) (x + 1) → qW X PR (d - 1) (some .int) cd_Hall_shieldBits 4 [some (.ref (74)), some (.int (nI K)), some (.int (nI y)), some (.int (nI E)), some (.int (nI (K + 1))), some (.int (nI v)), some (.int (nI x))] [] s2 Q := by
        intro s2 v F2 h2 h2' hv
        subst hv
        refine qW.blk rfl ?_
        refine qv_iinc (L' := [_, _, _, _, _, _, _]) rfl (nI_succ _).symm rfl ?_
        refine qv_goto (tgt := 1) rfl ?_
        exact ih (x + 1) s2 (by omega) (F1.trans F2) h2 h2'
      have hb := bsN_or (P := shi W g y) (n := x) (by omega)
      have hl1 := gq_lt (W := W) (A := gq W g (nv_leaf y)) (B := nv_leaf x) nyD.2.1 (show x < 7 by omega)
      have hl2 := hgD.2.1
      by_cases h : shi W g y x
      · refine qW.blk rfl ?_
        refine qv_iload rfl ?_
        refine qv_iload rfl ?_
        refine qv_icmp_geNf rfl rfl (by omega) (by omega) (by omega) (nx := 2) rfl ?_
        refine qW.blk rfl ?_
        refine qv_aload rfl ?_
        refine qv_gr ly_74 ⟨rfl, rfl, rfl⟩ (by omega) ?_
        refine qv_aload rfl ?_
        refine qv_iload rfl ?_
        refine qv_iload rfl ?_
        refine qv_iconst (v := 1) rfl ?_
        refine qv_iaddN (q := 1) rfl rfl ?_
        refine qv_iload rfl ?_
        refine qv_virt (ly_74.rcv _) sg_Hall_putAgainst rfl rfl (w_putAgainst hP (by omega) eh (part := K + 1) h1' (by omega) (by omega) (by omega) (fun s2 F2 g2 g3 => ?_))
        have c1 := g3.2.2.2.1
        rw [ew, hq] at c1
        have h2 := g2 0 g (by omega) (by omega) h1
        have h2' := g2 (K + 1) _ (by omega) (by omega) h1'
        refine qv_ia (j := K + 1 + 1 + 1) ly_77 rfl (by omega) (by decide) c1 ?_
        refine qv_aload rfl ?_
        refine qv_gr ly_74 ⟨rfl, rfl, rfl⟩ (by omega) ?_
        refine qv_iconst (v := 0) rfl ?_
        refine qv_ia (j := 0) ly_77 rfl (by omega) (by decide) h2.2.2.2.1 ?_
        refine qv_icmp_ne_f (fun z => z (congrArg nI h)) (nx := 3) rfl ?_
        have b3 : qW X PR (d - 1) (some .int) cd_Hall_shieldBits 3 [some (.ref (74)), some (.int (nI K)), some (.int (nI y)), some (.int (nI E)), some (.int (nI (K + 1))), some (.int (nI (bsN (shi W g y) x))), some (.int (nI x))] [] s2 Q := by
          refine qW.blk rfl ?_
          refine qv_iload rfl ?_
          refine qv_iconst (v := 1) rfl ?_
          refine qv_iload rfl ?_
          refine qv_ishl ?_
          refine qv_ior ?_
          refine qv_top (hb.1 h) ?_
          refine qv_istore (L' := [_, _, _, _, _, _, _]) rfl ?_
          refine qv_nil (nx := 4) rfl ?_
          exact nx s2 _ F2 h2 h2' rfl
        exact b3
      · have hne : ¬ nI (gq W (gq W g (nv_leaf y)) (nv_leaf x)).2.1 = nI g.2.1 := fun z => h ((nI_eq (by omega) (by omega)).mp z)
        refine qW.blk rfl ?_
        refine qv_iload rfl ?_
        refine qv_iload rfl ?_
        refine qv_icmp_geNf rfl rfl (by omega) (by omega) (by omega) (nx := 2) rfl ?_
        refine qW.blk rfl ?_
        refine qv_aload rfl ?_
        refine qv_gr ly_74 ⟨rfl, rfl, rfl⟩ (by omega) ?_
        refine qv_aload rfl ?_
        refine qv_iload rfl ?_
        refine qv_iload rfl ?_
        refine qv_iconst (v := 1) rfl ?_
        refine qv_iaddN (q := 1) rfl rfl ?_
        refine qv_iload rfl ?_
        refine qv_virt (ly_74.rcv _) sg_Hall_putAgainst rfl rfl (w_putAgainst hP (by omega) eh (part := K + 1) h1' (by omega) (by omega) (by omega) (fun s2 F2 g2 g3 => ?_))
        have c1 := g3.2.2.2.1
        rw [ew, hq] at c1
        have h2 := g2 0 g (by omega) (by omega) h1
        have h2' := g2 (K + 1) _ (by omega) (by omega) h1'
        refine qv_ia (j := K + 1 + 1 + 1) ly_77 rfl (by omega) (by decide) c1 ?_
        refine qv_aload rfl ?_
        refine qv_gr ly_74 ⟨rfl, rfl, rfl⟩ (by omega) ?_
        refine qv_iconst (v := 0) rfl ?_
        refine qv_ia (j := 0) ly_77 rfl (by omega) (by decide) h2.2.2.2.1 ?_
        refine qv_icmp_ne_t hne (tgt := 4) rfl ?_
        exact nx s2 _ F2 h2 h2' (hb.2 h)
  refine qW.blk rfl ?_
  refine qv_aload rfl ?_
  refine qv_iconst (v := 0) rfl ?_
  refine qv_iload rfl ?_
  refine qv_iload rfl ?_
  refine qv_virt (ly_74.rcv _) sg_Hall_putAgainst rfl rfl (w_putAgainst hP (by omega) hh (part := 0) hg (by omega) (by omega) hy (fun s1 F1 g2 g3 => ?_)) 
  refine qv_istore (L' := [_, _, _, _, _, _, _]) rfl ?_
  refine qv_iconst (v := 0) rfl ?_
  refine qv_istore (L' := [_, _, _, _, _, _, _]) rfl ?_
  refine qv_iconst (v := 0) rfl ?_
  refine qv_istore (L' := [_, _, _, _, _, _, _]) rfl ?_
  refine qv_nil (nx := 1) rfl ?_
  exact loop E 0 s1 (by omega) F1 (g2 0 g (by omega) (by omega) hg) (g3.ve ny hp5)
end
section
variable {X : pm_X} {PR : pm_P}
theorem Sim_shields (hP : pm_np PR) (t y : Int32) : Sim X PR 141 231 [.int t, .int y] := by
  intro d A hd hA
  have hC := hA.1
  have h12 := hC.2.2.2.2.1
  have hE7 := hC.2.1
  by_cases hv : (∃ k, k < aC A 3 ∧ t = nI k) ∧ ∃ x, x < aC A 0 ∧ y = nI x
  · obtain ⟨⟨k, hk3, rfl⟩, x, hx, rfl⟩ := hv
    have hD := hA.2.2.2.1 k hk3
    have hK0 := hD.1
    have hK := hD.2.1
    have hxin : 0 ≤ nI x ∧ nI x ≤ nI (aC A 0) - 1 := (in_nI1 (by omega)).mpr ⟨x, hx, rfl⟩
    obtain ⟨g, hg⟩ : ∃ g, gval (cvw (aC A)) (aT A k).2.1 ((aT A k).2.2.2.1 - 1) = g := ⟨_, rfl⟩
    have hgl := gval_lt hD (cvw_ok5 hC).u
    obtain ⟨hdec⟩ : Nonempty (∀ x, Decidable (kil (cvw (aC A)) g x)) := ⟨fun x => Classical.propDecidable _⟩
    obtain ⟨hdec2⟩ : Nonempty (∀ z, Decidable (shi (cvw (aC A)) g x z)) := ⟨fun x => Classical.propDecidable _⟩
    have hbit := bsN_bit (P := kil (cvw (aC A)) g) (x := x) (by omega) (aC A 0) (by omega)
    have hlt := bsN_lt (P := kil (cvw (aC A)) g) (aC A 0)
    have hlt2 := two_lt (n := aC A 0) (by omega)
    obtain ⟨r, hr⟩ : ∃ r : Int32, (if kil (cvw (aC A)) g x then nI (bsN (shi (cvw (aC A)) g x) (aC A 0)) else -3) = r := ⟨_, rfl⟩
    refine ⟨.int r, A, hA, ?_, ?_⟩
    · intro s Q hJ hk
      obtain ⟨T, hT1, w', sc, pr, hT3, hT4⟩ := hJ.2.2.2.1 k hk3
      refine qP.of (L := [_, _, _, _]) (by omega) (hP _ rfl) ms_Desk_shields rfl ?_
      show qW X PR (d - 1) (some .int) cd_Desk_shields 0 _ _ _ _
      refine qW.blk rfl ?_
      refine qv_aload rfl ?_
      refine qv_gr ly_8 ⟨rfl, rfl, rfl⟩ (by omega) ?_
      refine qv_iload rfl ?_
      refine qv_virtE (ly_9.rcv _) sg_Chamber_treeAt rfl rfl (r_treeAt_y hP (by omega) hJ.1.2.2.2.1 h12 hk3 hT1) ?_
      refine qv_astore (L' := [_, _, _, _]) rfl ?_
      refine qv_aload rfl ?_
      refine qv_null_f (nx := 1) rfl ?_
      refine qW.blk rfl ?_
      refine qv_aload rfl ?_
      refine qv_iload rfl ?_
      refine qv_virtE (ly_8.rcv _) sg_Desk_isThere rfl rfl (r_Desk_isThere hP (by omega) (nI x) hJ.1.1) ?_
      refine qv_if_ne_t (bI_ne.mpr (hxin)) (tgt := 3) rfl ?_
      refine qW.blk rfl ?_
      refine qv_aload rfl ?_
      refine qv_gr ly_8 ⟨rfl, rfl, rfl⟩ (by omega) ?_
      refine qv_aload rfl ?_
      refine qv_gr ly_8 ⟨rfl, rfl, rfl⟩ (by omega) ?_
      refine qv_virt (ly_74.rcv _) sg_Hall_seat rfl rfl (w_Hall_seat hP (by omega) hJ.1 hC (fun s1 p F1 m1 v1 => ?_))
      refine qv_aload rfl ?_
      refine qv_gr ly_8 ⟨rfl, rfl, rfl⟩ (by omega) ?_
      refine qv_aload rfl ?_
      refine qv_virt (ly_74.rcv _) sg_Hall_settle rfl rfl (w_settleT hP (by omega) (m1.ok v1) hD (by rw [F1.R]; exact ⟨w', sc, pr, hT3, hT4⟩) (tdE hD) (m1.ve v1) (fun s2 F2 h2 => ?_))
      have hR2 : qR s2 = qR s := F2.R.trans F1.R
      have F := F1.trans (F2.mono (lo' := 74) (hi' := 110) (by omega) (by omega))
      have h0 := (h2 0 hK0).1
      rw [hD.2.2.2.2.1.1, hg] at h0
      have hnd := (ceq_of hD (tdE hD) (m1.ve v1) (m1.ok v1).u).2 0 hK0
      rw [hD.2.2.2.2.1.1, hg] at hnd
      refine qv_pop rfl ?_
      refine qv_aload rfl ?_
      refine qv_gr ly_8 ⟨rfl, rfl, rfl⟩ (by omega) ?_
      refine qv_aload rfl ?_
      refine qv_gh (hT3.o hR2) rfl rfl ?_
      refine qv_aload rfl ?_
      refine qv_gr ly_8 ⟨rfl, rfl, rfl⟩ (by omega) ?_
      refine qv_gi ly_9 ⟨rfl, rfl, rfl⟩ ((F.f (by omega)).trans hJ.1.1) ?_
      refine qv_virt (ly_74.rcv _) sg_Hall_killerBits rfl rfl (w_killerBits hP (by omega) ((m1.ok v1).fr82 F2) hE7 (W := cvw (aC A)) (by rw [hvw_cg F2 (by omega) (by omega)]; exact m1.ve v1) h0 hnd hK0 hK (fun s3 F3 h3 => ?_))
      have F' := F.trans (F3.mono (lo' := 74) (hi' := 110) (by omega) (by omega))
      have hR3 : qR s3 = qR s := F'.R
      refine qv_iload rfl ?_
      refine qv_ishr ?_
      refine qv_iconst (v := 1) rfl ?_
      refine qv_iand ?_
      refine qv_top (bit_shr (by omega) (by omega)) ?_
      by_cases h : kil (cvw (aC A)) g x
      · have hb := hbit.mpr ⟨hx, h⟩
        rw [if_pos h] at hr
        refine qv_if_neNt rfl (by omega) (by unfold btn at hb; omega) (tgt := 5) rfl ?_
        refine qW.blk rfl ?_
        refine qv_aload rfl ?_
        refine qv_gr ly_8 ⟨rfl, rfl, rfl⟩ (by omega) ?_
        refine qv_aload rfl ?_
        refine qv_gh (hT3.o hR3) rfl rfl ?_
        refine qv_iload rfl ?_
        refine qv_aload rfl ?_
        refine qv_gr ly_8 ⟨rfl, rfl, rfl⟩ (by omega) ?_
        refine qv_gi ly_9 ⟨rfl, rfl, rfl⟩ ((F'.f (by omega)).trans hJ.1.1) ?_
        refine qv_virt (ly_74.rcv _) sg_Hall_shieldBits rfl rfl (w_shieldBits hP (by omega) (((m1.ok v1).fr82 F2).fr82 F3) hE7 (show x < 7 by omega) (W := cvw (aC A)) (by rw [hvw_cg F3 (by omega) (by omega), hvw_cg F2 (by omega) (by omega)]; exact m1.ve v1) h3 hnd hK0 hK (fun s4 F4 => ?_))
        refine qv_iret rfl ?_
        rw [hr]
        have F'' := F'.trans (F4.mono (by omega) (by omega))
        exact hk s4 (hJ.fr hA F'' (by omega)) (F''.c (by omega) (by omega))
      · have hb : ¬ btn (bsN (kil (cvw (aC A)) g) (aC A 0)) x := fun z => h (hbit.mp z).2
        rw [if_neg h] at hr
        refine qv_if_neNf rfl (by omega) (by unfold btn at hb; omega) (nx := 4) rfl ?_
        refine qW.blk rfl ?_
        refine qv_iconst (v := (-3)) rfl ?_
        refine qv_iret rfl ?_
        rw [hr]
        exact hk s3 (hJ.fr hA F' (by omega)) (F'.c (by omega) (by omega))
    · intro s Q hJ hk
      have J1 := hJ.thr (v := 0)
      have rv := rview_neu J1.1 hC J1.2.2.2.2.2
      refine qP.of (L := [_, _, _, _, _, _]) (by omega) (hP _ rfl) ms_Model_shields rfl ?_
      show qW X PR (d - 1) (some .int) cd_Model_shields 0 _ _ _ _
      by_cases h : kil (cvw (aC A)) g x
      · rw [if_pos h] at hr
        have h' := h
        unfold kil at h'
        have loop : ∀ (c z : Nat) (s1 : QST) (L5 : Option Value), z + c = aC A 0 → efr (uF s 163 0 0) s1 → qW X PR (d - 1) (some .int) cd_Model_shields 6 [some (.ref (163)), some (.int (nI k)), some (.int (nI x)), some (.int (nI (bsN (shi (cvw (aC A)) g x) z))), some (.int (nI z)), L5] [] s1 Q := by
          intro c
          induction c with
          | zero =>
            intro z s1 L5 hz F1
            have e : z = aC A 0 := by omega
            subst e
            refine qW.blk rfl ?_
            refine qv_iload rfl ?_
            refine qv_aload rfl ?_
            refine qv_gr ly_163 ⟨rfl, rfl, rfl⟩ (by omega) ?_
            refine qv_iconst (v := 0) rfl ?_
            refine qv_ia (j := 0) ly_164 rfl (by omega) (by decide) ((J1.fr F1.r).1 0 (by decide)) ?_
            refine qv_icmp_geNt rfl rfl (by omega) (by omega) (by omega) (tgt := 11) rfl ?_
            refine qW.blk rfl ?_
            refine qv_iload rfl ?_
            refine qv_iret (rfl) ?_
            rw [hr]
            exact hk s1 (J1.fr F1.r) (((qfr.rf s).uF (by omega)).trans F1.1)
          | succ c ih =>
            intro z s1 L5 hz F1
            have J2 := J1.fr F1.r
            have hb := bsN_or (P := shi (cvw (aC A)) g x) (n := z) (by omega)
            have ok1 := tadd_ok hD.2.2.2.1 hK0 (show x < 7 by omega)
            have e1 : gval (cvw (aC A)) (tadd (aT A k).2.1 (aT A k).2.2.2.1 x) ((aT A k).2.2.2.1 + 2 - 1) = gq (cvw (aC A)) g (nv_leaf x) := by rw [← hg]; exact tadd_val hD.2.2.2.1 hK0 (by omega)
            have e2 : gval (cvw (aC A)) (tadd (tadd (aT A k).2.1 (aT A k).2.2.2.1 x) ((aT A k).2.2.2.1 + 2) z) ((aT A k).2.2.2.1 + 2 + 2 - 1) = gq (cvw (aC A)) (gq (cvw (aC A)) g (nv_leaf x)) (nv_leaf z) := by rw [← e1]; exact tadd_val ok1 (by omega) (by omega)
            have hl : (gq (cvw (aC A)) (gq (cvw (aC A)) g (nv_leaf x)) (nv_leaf z)).2.1 < 7 := gq_lt (gq_lt (by rw [← hg]; exact hgl.1) (show x < 7 by omega)) (show z < 7 by omega)
            have hl2 : g.2.1 < 7 := by rw [← hg]; exact hgl.1
            by_cases hs : shi (cvw (aC A)) g x z
            · have hs' := hs
              unfold shi at hs'
              refine qW.blk rfl ?_
              refine qv_iload rfl ?_
              refine qv_aload rfl ?_
              refine qv_gr ly_163 ⟨rfl, rfl, rfl⟩ (by omega) ?_
              refine qv_iconst (v := 0) rfl ?_
              refine qv_ia (j := 0) ly_164 rfl (by omega) (by decide) (J2.1 0 (by decide)) ?_
              refine qv_icmp_geNf rfl rfl (by omega) (by omega) (by omega) (nx := 7) rfl ?_
              refine qW.blk rfl ?_
              refine qv_aload rfl ?_
              refine qv_iload rfl ?_
              refine qv_virt (ly_163.rcv _) sg_Model_endOf rfl rfl (w_M_endOf hP (by omega) (rv.e F1) (by omega) hD (J2.2.2.2.1 k hk3) (fun s2 F2 g1 g2 g3 => ?_)) 
              refine qv_istore (L' := [_, _, _, _, _, _]) rfl ?_
              refine qv_aload rfl ?_
              refine qv_iload rfl ?_
              refine qv_virt (ly_163.rcv _) sg_Model_against rfl rfl (w_M_against hP (by omega) g1 hK0 (by omega) (x := x) (by omega) (fun s3 F3 k1 k2 => ?_)) 
              refine qv_aload rfl ?_
              refine qv_iload rfl ?_
              refine qv_virt (ly_163.rcv _) sg_Model_against rfl rfl (w_M_against hP (by omega) k1 (by omega) (by omega) (x := z) (by omega) (fun s4 F4 l1 l2 => ?_)) 
              refine qv_iload rfl ?_
              refine qv_aload rfl ?_
              refine qv_virt (ly_163.rcv _) sg_Model_settle rfl rfl (w_M_settle hP (by omega) ((((rv.e F1).e F2).e F3).e F4) (by omega) (by omega) l1 (tadd_ok ok1 (by omega) (by omega)) (l2 _ (k2 _ g2)) (fun s5 F5 _ _ _ => ?_)) 
              refine qv_iload rfl ?_
              refine qv_icmp_ne_f (fun q => q (by rw [e2, hg]; exact congrArg nI hs')) (nx := 8) rfl ?_
              refine qW.blk rfl ?_
              refine qv_iconst (v := 1) rfl ?_
              refine qv_iload rfl ?_
              refine qv_ishl ?_
              refine qv_goto (tgt := 10) rfl ?_
              refine qW.blk rfl ?_
              refine qv_ior ?_
              refine qv_top (hb.1 hs) ?_
              refine qv_istore (L' := [_, _, _, _, _, _]) rfl ?_
              refine qv_iinc (L' := [_, _, _, _, _, _]) rfl (nI_succ _).symm rfl ?_
              refine qv_goto (tgt := 6) rfl ?_
              exact ih (z + 1) s5 _ (by omega) ((((F1.trans F2).trans F3).trans F4).trans F5)
            · have hs' := hs
              unfold shi at hs'
              refine qW.blk rfl ?_
              refine qv_iload rfl ?_
              refine qv_aload rfl ?_
              refine qv_gr ly_163 ⟨rfl, rfl, rfl⟩ (by omega) ?_
              refine qv_iconst (v := 0) rfl ?_
              refine qv_ia (j := 0) ly_164 rfl (by omega) (by decide) (J2.1 0 (by decide)) ?_
              refine qv_icmp_geNf rfl rfl (by omega) (by omega) (by omega) (nx := 7) rfl ?_
              refine qW.blk rfl ?_
              refine qv_aload rfl ?_
              refine qv_iload rfl ?_
              refine qv_virt (ly_163.rcv _) sg_Model_endOf rfl rfl (w_M_endOf hP (by omega) (rv.e F1) (by omega) hD (J2.2.2.2.1 k hk3) (fun s2 F2 g1 g2 g3 => ?_)) 
              refine qv_istore (L' := [_, _, _, _, _, _]) rfl ?_
              refine qv_aload rfl ?_
              refine qv_iload rfl ?_
              refine qv_virt (ly_163.rcv _) sg_Model_against rfl rfl (w_M_against hP (by omega) g1 hK0 (by omega) (x := x) (by omega) (fun s3 F3 k1 k2 => ?_)) 
              refine qv_aload rfl ?_
              refine qv_iload rfl ?_
              refine qv_virt (ly_163.rcv _) sg_Model_against rfl rfl (w_M_against hP (by omega) k1 (by omega) (by omega) (x := z) (by omega) (fun s4 F4 l1 l2 => ?_)) 
              refine qv_iload rfl ?_
              refine qv_aload rfl ?_
              refine qv_virt (ly_163.rcv _) sg_Model_settle rfl rfl (w_M_settle hP (by omega) ((((rv.e F1).e F2).e F3).e F4) (by omega) (by omega) l1 (tadd_ok ok1 (by omega) (by omega)) (l2 _ (k2 _ g2)) (fun s5 F5 _ _ _ => ?_)) 
              refine qv_iload rfl ?_
              refine qv_icmp_ne_t (fun q => hs' (by rw [e2, hg] at q; exact (nI_eq (by omega) (by omega)).mp q)) (tgt := 9) rfl ?_
              refine qW.blk rfl ?_
              refine qv_iconst (v := 0) rfl ?_
              refine qv_nil (nx := 10) rfl ?_
              refine qW.blk rfl ?_
              refine qv_ior ?_
              refine qv_top ((or_zero32 _).trans (congrArg nI (hb.2 hs))) ?_
              refine qv_istore (L' := [_, _, _, _, _, _]) rfl ?_
              refine qv_iinc (L' := [_, _, _, _, _, _]) rfl (nI_succ _).symm rfl ?_
              refine qv_goto (tgt := 6) rfl ?_
              exact ih (z + 1) s5 _ (by omega) ((((F1.trans F2).trans F3).trans F4).trans F5)
        refine qW.blk rfl ?_
        refine qv_aload rfl ?_
        refine qv_iconst (v := 0) rfl ?_
        refine qv_pi ly_163 ⟨rfl, rfl, rfl⟩ (rfl) ?_
        refine qv_aload rfl ?_
        refine qv_iload rfl ?_
        refine qv_virtE (ly_163.rcv _) sg_Model_isTree rfl rfl (r_M_isTree hP (by omega) (nI k) (J1.1 3 (by decide))) ?_
        refine qv_if_eq_f (bI_ne.mpr ((in_nI1 (by omega)).mpr ⟨k, hk3, rfl⟩)) (nx := 1) rfl ?_
        refine qW.blk rfl ?_
        refine qv_aload rfl ?_
        refine qv_iload rfl ?_
        refine qv_virtE (ly_163.rcv _) sg_Model_isThere rfl rfl (r_M_isThere hP (by omega) (nI x) (J1.1 0 (by decide))) ?_
        refine qv_if_ne_t (bI_ne.mpr (hxin)) (tgt := 3) rfl ?_
        refine qW.blk rfl ?_
        refine qv_aload rfl ?_
        refine qv_iload rfl ?_
        refine qv_iload rfl ?_
        refine qv_virt (ly_163.rcv _) sg_Model_isKiller rfl rfl (w_M_isKiller hP (by omega) rv (cvw_ok5 hC).u (by omega) (x := x) (by omega) hD (J1.2.2.2.1 k hk3) (fun s2 F2 => ?_)) 
        refine qv_if_ne_t (by rw [hg, if_neg h']; decide) (tgt := 5) rfl ?_
        refine qW.blk rfl ?_
        refine qv_iconst (v := 0) rfl ?_
        refine qv_istore (L' := [_, _, _, _, _, _]) rfl ?_
        refine qv_iconst (v := 0) rfl ?_
        refine qv_istore (L' := [_, _, _, _, _, _]) rfl ?_
        refine qv_nil (nx := 6) rfl ?_
        exact loop (aC A 0) 0 s2 _ (by omega) F2
      · have h' := Classical.byContradiction h
        rw [if_neg h] at hr
        refine qW.blk rfl ?_
        refine qv_aload rfl ?_
        refine qv_iconst (v := 0) rfl ?_
        refine qv_pi ly_163 ⟨rfl, rfl, rfl⟩ (rfl) ?_
        refine qv_aload rfl ?_
        refine qv_iload rfl ?_
        refine qv_virtE (ly_163.rcv _) sg_Model_isTree rfl rfl (r_M_isTree hP (by omega) (nI k) (J1.1 3 (by decide))) ?_
        refine qv_if_eq_f (bI_ne.mpr ((in_nI1 (by omega)).mpr ⟨k, hk3, rfl⟩)) (nx := 1) rfl ?_
        refine qW.blk rfl ?_
        refine qv_aload rfl ?_
        refine qv_iload rfl ?_
        refine qv_virtE (ly_163.rcv _) sg_Model_isThere rfl rfl (r_M_isThere hP (by omega) (nI x) (J1.1 0 (by decide))) ?_
        refine qv_if_ne_t (bI_ne.mpr (hxin)) (tgt := 3) rfl ?_
        refine qW.blk rfl ?_
        refine qv_aload rfl ?_
        refine qv_iload rfl ?_
        refine qv_iload rfl ?_
        refine qv_virt (ly_163.rcv _) sg_Model_isKiller rfl rfl (w_M_isKiller hP (by omega) rv (cvw_ok5 hC).u (by omega) (x := x) (by omega) hD (J1.2.2.2.1 k hk3) (fun s2 F2 => ?_)) 
        refine qv_if_ne_f (fun q => q (by rw [hg, if_pos h'])) (nx := 4) rfl ?_
        refine qW.blk rfl ?_
        refine qv_iconst (v := (-3)) rfl ?_
        refine qv_iret (rfl) ?_
        rw [hr]
        exact hk s2 (J1.fr F2.r) (((qfr.rf s).uF (by omega)).trans F2.1)
  · refine ⟨.int (-1), A, hA, ?_, ?_⟩
    · intro s Q hJ hk
      refine qP.of (L := [_, _, _, _]) (by omega) (hP _ rfl) ms_Desk_shields rfl ?_
      show qW X PR (d - 1) (some .int) cd_Desk_shields 0 _ _ _ _
      rcases pl_of t (aC A 3) with ⟨k, hk3, rfl⟩ | hn
      · obtain ⟨T, hT1, hT2⟩ := hJ.2.2.2.1 k hk3
        have hy : ¬ (0 ≤ y ∧ y ≤ nI (aC A 0) - 1) := fun z => hv ⟨⟨k, hk3, rfl⟩, (in_nI1 (by omega)).mp z⟩
        refine qW.blk rfl ?_
        refine qv_aload rfl ?_
        refine qv_gr ly_8 ⟨rfl, rfl, rfl⟩ (by omega) ?_
        refine qv_iload rfl ?_
        refine qv_virtE (ly_9.rcv _) sg_Chamber_treeAt rfl rfl (r_treeAt_y hP (by omega) hJ.1.2.2.2.1 h12 hk3 hT1) ?_
        refine qv_astore (L' := [_, _, _, _]) rfl ?_
        refine qv_aload rfl ?_
        refine qv_null_f (nx := 1) rfl ?_
        refine qW.blk rfl ?_
        refine qv_aload rfl ?_
        refine qv_iload rfl ?_
        refine qv_virtE (ly_8.rcv _) sg_Desk_isThere rfl rfl (r_Desk_isThere hP (by omega) y hJ.1.1) ?_
        refine qv_if_ne_f (fun zq => zq (bI_f (hy))) (nx := 2) rfl ?_
        refine qW.blk rfl ?_
        refine qv_iconst (v := (-1)) rfl ?_
        refine qv_iret (rfl) ?_
        exact hk s hJ (cfr.rf s)
      · refine qW.blk rfl ?_
        refine qv_aload rfl ?_
        refine qv_gr ly_8 ⟨rfl, rfl, rfl⟩ (by omega) ?_
        refine qv_iload rfl ?_
        refine qv_virtE (ly_9.rcv _) sg_Chamber_treeAt rfl rfl (r_treeAt_n hP (by omega) hJ.1.2.2.2.1 h12 hn) ?_
        refine qv_astoreN (L' := [_, _, _, _]) rfl ?_
        refine qv_aloadN rfl ?_
        refine qv_null_t (tgt := 2) rfl ?_
        refine qW.blk rfl ?_
        refine qv_iconst (v := (-1)) rfl ?_
        refine qv_iret (rfl) ?_
        exact hk s hJ (cfr.rf s)
    · intro s Q hJ hk
      have J1 := hJ.thr (v := 0)
      have fin := hk (uF s 163 0 0) hJ.thr ((qfr.rf s).uF (by omega))
      refine qP.of (L := [_, _, _, _, _, _]) (by omega) (hP _ rfl) ms_Model_shields rfl ?_
      show qW X PR (d - 1) (some .int) cd_Model_shields 0 _ _ _ _
      rcases pl_of t (aC A 3) with hm | hn
      · have hy : ¬ (0 ≤ y ∧ y ≤ nI (aC A 0) - 1) := fun z => hv ⟨hm, (in_nI1 (by omega)).mp z⟩
        refine qW.blk rfl ?_
        refine qv_aload rfl ?_
        refine qv_iconst (v := 0) rfl ?_
        refine qv_pi ly_163 ⟨rfl, rfl, rfl⟩ (rfl) ?_
        refine qv_aload rfl ?_
        refine qv_iload rfl ?_
        refine qv_virtE (ly_163.rcv _) sg_Model_isTree rfl rfl (r_M_isTree hP (by omega) t (J1.1 3 (by decide))) ?_
        refine qv_if_eq_f (bI_ne.mpr ((in_nI1 (by omega)).mpr hm)) (nx := 1) rfl ?_
        refine qW.blk rfl ?_
        refine qv_aload rfl ?_
        refine qv_iload rfl ?_
        refine qv_virtE (ly_163.rcv _) sg_Model_isThere rfl rfl (r_M_isThere hP (by omega) y (J1.1 0 (by decide))) ?_
        refine qv_if_ne_f (fun zq => zq (bI_f (hy))) (nx := 2) rfl ?_
        refine qW.blk rfl ?_
        refine qv_iconst (v := (-1)) rfl ?_
        refine qv_iret (rfl) ?_
        exact fin
      · refine qW.blk rfl ?_
        refine qv_aload rfl ?_
        refine qv_iconst (v := 0) rfl ?_
        refine qv_pi ly_163 ⟨rfl, rfl, rfl⟩ (rfl) ?_
        refine qv_aload rfl ?_
        refine qv_iload rfl ?_
        refine qv_virtE (ly_163.rcv _) sg_Model_isTree rfl rfl (r_M_isTree hP (by omega) t (J1.1 3 (by decide))) ?_
        refine qv_if_eq_t (bI_f (fun z => hn ((in_nI1 (by omega)).mp z))) (tgt := 2) rfl ?_
        refine qW.blk rfl ?_
        refine qv_iconst (v := (-1)) rfl ?_
        refine qv_iret (rfl) ?_
        exact fin
end
