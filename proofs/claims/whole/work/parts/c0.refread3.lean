/-! the reference reads as the pure reader says -/
/-- back at the head of the reading loop -/
def LH (X : pm_X) (PR : pm_P) (d dd : Nat) (Q : QPost) (s' : QST) : Prop := ∀ (L2 L3 : Option Value), qW X PR (d - 1) (some .int) cd_Model_faultOf 1 [some (.ref 163), some (.int (nI dd)), L2, L3] [] s' Q
/-- in the closing loop, the last node is a part of what is open -/
def KP (X : pm_X) (PR : pm_P) (d dd : Nat) (Q : QPost) (o c : Nat) (s2 : QST) : Prop := ∀ (dp : Nat) (Qp : QPost) (n0 : Int32) (L4 : Option Value), 8 ≤ dp → (∀ s', LH X PR d dd Q s' → Qp none s') → qW X PR dp none cd_Model_part 4 [some (.ref 163), some (.int n0), some (.int (nI (c - 1))), some (.int (nI (if o = 0 then 0 else 1))), L4] [] s2 Qp
def MRd (X : pm_X) (PR : pm_P) (d dd z n : Nat) (B : Nat → Nat) (Q : QPost) (rec : PS → Nat × PS) (o : Nat) (s : QST) (p : PS) : Prop := ((rec p).1 = 1 → ∀ s2, pf s s2 → RS0 s2 (sA (rec p).2) (sC (rec p).2) (sQ (rec p).2) o (if o = 0 then 1 else 0) → ndr s2 (sC (rec p).2) (sU (rec p).2) → stk s s2 o → KP X PR d dd Q o (sC (rec p).2) s2) → ((rec p).1 = 0 → ∀ s2, pf s s2 → qF s2 163 13 = nI (sA (rec p).2) → qF s2 163 14 = 1 → LH X PR d dd Q s2) → LH X PR d dd Q s
def MRt (X : pm_X) (PR : pm_P) (d dd z n : Nat) (B : Nat → Nat) (Q : QPost) (r : Nat) : Prop := ∀ (o : Nat) (s : QST) (p : PS), o + r = 6 → PB s dd z n B → RS0 s (sA p) (sC p) (sQ p) o 0 → ndr s (sC p) (sU p) → 2 * sC p ≤ sA p + o → sA p ≤ z → MRd X PR d dd z n B Q (pp B z n r) o s p
section
variable {X : pm_X} {PR : pm_P} {Q : QPost} {dd z n : Nat} {B : Nat → Nat}
/-- what was begun is read and closed -/
theorem w_mpair (hP : pm_np PR) (hdd : dd < 8) (hz : z ≤ 120) {d r : Nat} (IH : MRt X PR d dd z n B Q r) {o len kd x y : Nat} (hor : o + (r + 1) = 6) {s : QST} {p : PS} (hlen : 1 ≤ len) (hPB : PB s dd z n B) (hR : RS0 s (sA p + len) (sC p) (sQ p + (if kd = 1 then 1 else 0)) (o + 1) 0) (hN : ndr s (sC p) (sU p)) (hT : stp s o kd x y (-1)) (hkd : kd = 1 ∨ kd = 2) (hcb : 2 * sC p ≤ sA p + o) (haz : sA p + len ≤ z) (Hok : (pPair (pp B z n r) B z kd (sB p) x y (if kd = 1 then 118 else 47) (if kd = 1 then 41 else 125) (pOpen p len kd x y)).1 = 1 → ∀ s2, pf s s2 → RS0 s2 (sA (pPair (pp B z n r) B z kd (sB p) x y (if kd = 1 then 118 else 47) (if kd = 1 then 41 else 125) (pOpen p len kd x y)).2) (sC (pPair (pp B z n r) B z kd (sB p) x y (if kd = 1 then 118 else 47) (if kd = 1 then 41 else 125) (pOpen p len kd x y)).2) (sQ (pPair (pp B z n r) B z kd (sB p) x y (if kd = 1 then 118 else 47) (if kd = 1 then 41 else 125) (pOpen p len kd x y)).2) o (if o = 0 then 1 else 0) → ndr s2 (sC (pPair (pp B z n r) B z kd (sB p) x y (if kd = 1 then 118 else 47) (if kd = 1 then 41 else 125) (pOpen p len kd x y)).2) (sU (pPair (pp B z n r) B z kd (sB p) x y (if kd = 1 then 118 else 47) (if kd = 1 then 41 else 125) (pOpen p len kd x y)).2) → stk s s2 o → KP X PR d dd Q o (sC (pPair (pp B z n r) B z kd (sB p) x y (if kd = 1 then 118 else 47) (if kd = 1 then 41 else 125) (pOpen p len kd x y)).2) s2) (Hbad : (pPair (pp B z n r) B z kd (sB p) x y (if kd = 1 then 118 else 47) (if kd = 1 then 41 else 125) (pOpen p len kd x y)).1 = 0 → ∀ s2, pf s s2 → qF s2 163 13 = nI (sA (pPair (pp B z n r) B z kd (sB p) x y (if kd = 1 then 118 else 47) (if kd = 1 then 41 else 125) (pOpen p len kd x y)).2) → qF s2 163 14 = 1 → LH X PR d dd Q s2) : LH X PR d dd Q s := by
  have ho : o < 6 := by omega
  have g1 := pp_good (B := B) (z := z) (n := n) r (pOpen p len kd x y)
  have I1 := IH (o + 1) s (pOpen p len kd x y) (by omega) hPB hR hN (show 2 * sC p ≤ sA p + len + (o + 1) by omega) haz
  unfold MRd at I1
  obtain ⟨R1, hR1⟩ : ∃ R, pp B z n r (pOpen p len kd x y) = R := ⟨_, rfl⟩
  unfold pPair at Hok Hbad
  rw [hR1] at Hok Hbad g1 I1
  obtain ⟨a1, a2, a3, a4⟩ := g1
  have a2' : sA p + len ≤ sA R1.2 := a2
  have a3' : sA R1.2 ≤ z := a3 haz
  refine I1 (fun h1 s2 F2 R2s N2 K2 => ?_) (fun h1 s2 F2 q1 q2 => ?_)
  · have h1' : ¬ R1.1 = 0 := by omega
    rw [if_neg h1'] at Hok Hbad
    obtain ⟨k1, k2, k3, k4, k5, k6, k7, k8⟩ := a4 h1
    have x1 : sB (pOpen p len kd x y) = sB p + 1 := rfl
    have x2 : sC (pOpen p len kd x y) = sC p := rfl
    have x3 : sA (pOpen p len kd x y) = sA p + len := rfl
    rw [x1] at k2 k3 k5
    rw [x2] at k3 k4
    rw [x3] at k1 k5
    rw [if_neg (show ¬ o + 1 = 0 by omega)] at R2s
    intro dp Qp n0 L4 hdp hQp
    rw [if_neg (show ¬ o + 1 = 0 by omega)]
    have B2 := hPB.fr F2
    have T2 := hT.fr K2 (Nat.lt_succ_self o)
    by_cases hs : isc B z (if kd = 1 then 118 else 47) (sA R1.2)
    · rw [if_pos hs] at Hok Hbad
      refine w_part_first_y (d := dp + 1) hP (by omega) B2 hdd hz R2s N2 ho T2 hkd hs (fun s3 F3 R3 N3 K3 T3 => hQp s3 ?_)
      have g2 := pp_good (B := B) (z := z) (n := n) r (pMid R1.2 (sB p) kd x y)
      have hsz := hs.1
      have I2 := IH (o + 1) s3 (pMid R1.2 (sB p) kd x y) (by omega) (B2.fr F3) R3 N3 (show 2 * sC R1.2 ≤ sA R1.2 + 1 + (o + 1) by omega) (show sA R1.2 + 1 ≤ z by omega)
      unfold MRd at I2
      obtain ⟨R2, hR2⟩ : ∃ R, pp B z n r (pMid R1.2 (sB p) kd x y) = R := ⟨_, rfl⟩
      rw [hR2] at Hok Hbad g2 I2
      obtain ⟨d1, d2, d3, d4⟩ := g2
      have d2' : sA R1.2 + 1 ≤ sA R2.2 := d2
      have d3' : sA R2.2 ≤ z := d3 (show sA R1.2 + 1 ≤ z by omega)
      refine I2 (fun h3 s4 F4 R4 N4 K4 => ?_) (fun h3 s4 F4 q1 q2 => ?_)
      · have h3' : ¬ R2.1 = 0 := by omega
        rw [if_neg h3'] at Hok Hbad
        obtain ⟨f1, f2, f3, f4, f5, f6, f7, f8⟩ := d4 h3
        have y2 : sC (pMid R1.2 (sB p) kd x y) = sC R1.2 := rfl
        have y4 : sB (pMid R1.2 (sB p) kd x y) = sB R1.2 := rfl
        have y6 : sA (pMid R1.2 (sB p) kd x y) = sA R1.2 + 1 := rfl
        rw [y4] at f2 f3 f5
        rw [y2] at f3 f4
        rw [y6] at f1 f5
        rw [if_neg (show ¬ o + 1 = 0 by omega)] at R4
        intro dp' Qp' n0' L4' hdp' hQp'
        rw [if_neg (show ¬ o + 1 = 0 by omega)]
        have B4 := (B2.fr F3).fr F4
        have T4 := T3.fr K4 (Nat.lt_succ_self o)
        by_cases hc : isc B z (if kd = 1 then 41 else 125) (sA R2.2)
        · rw [if_pos hc] at Hok
          refine w_part_close_y (d := dp' + 1) hP (by omega) B4 hdd hz R4 N4 ho (by omega) (by omega) T4 hkd hc (fun s5 L5 F5 R5 N5 K5 => ?_)
          have := Hok rfl s5 (F2.trans (F3.trans (F4.trans F5))) R5 N5 ((K2.mono (by omega)).trans (K3.trans ((K4.mono (by omega)).trans K5))) dp' Qp' n0' L5 hdp' hQp'
          exact this
        · rw [if_neg hc] at Hbad
          exact w_part_close_n (d := dp' + 1) hP (by omega) B4 hdd hz R4 ho d3' (by omega) T4 hkd hc (fun s5 F5 q1 q2 => hQp' s5 (Hbad rfl s5 (F2.trans (F3.trans (F4.trans F5))) q1 q2))
      · rw [if_pos h3] at Hbad
        exact Hbad h3 s4 (F2.trans (F3.trans F4)) q1 q2
    · rw [if_neg hs] at Hbad
      exact w_part_first_n (d := dp + 1) hP (by omega) B2 hdd hz R2s ho a3' T2 hkd hs (fun s3 F3 q1 q2 => hQp s3 (Hbad rfl s3 (F2.trans F3) q1 q2))
  · rw [if_pos h1] at Hbad
    exact Hbad h1 s2 F2 q1 q2
theorem w_mread (hP : pm_np PR) (hdd : dd < 8) (hz : z ≤ 120) (hn1 : 1 ≤ n) (hn : n ≤ 7) {d : Nat} (hd : 12 ≤ d) : ∀ r, MRt X PR d dd z n B Q r := by
  -- an END, or a byte with which none can go on
  have leaf : ∀ (o : Nat) (s : QST) (p : PS), o ≤ 6 → PB s dd z n B → RS0 s (sA p) (sC p) (sQ p) o 0 → ndr s (sC p) (sU p) → 2 * sC p ≤ sA p + o → sA p ≤ z → ¬ isc B z 40 (sA p) → ¬ isc B z 123 (sA p) → MRd X PR d dd z n B Q (fun p => if isd B z n (sA p) then (1, pLeaf B p) else (0, p)) o s p := by
    intro o s p ho hPB hR hN hcb haz h40 h123 Hok Hbad L2 L3
    obtain ⟨h13, h14, h15, h16, h26, h27⟩ := hR
    have lp : qW X PR (d - 1) (some .int) cd_Model_faultOf 1 [some (.ref (163)), some (.int (nI dd)), L2, L3] [] s Q := by
      by_cases hd1 : isd B z n (sA p)
      · have Hok := Hok (by show (if isd B z n (sA p) then ((1, pLeaf B p) : Nat × PS) else (0, p)).1 = 1; rw [if_pos hd1])
        have eR : (if isd B z n (sA p) then ((1, pLeaf B p) : Nat × PS) else (0, p)) = (1, pLeaf B p) := if_pos hd1
        have Hok : ∀ s2, pf s s2 → RS0 s2 (sA p + 1) (sC p + 1) (sQ p) o (if o = 0 then 1 else 0) → ndr s2 (sC p + 1) (updN (sU p) (sC p) (0, 0, 0, B (sA p) - 48, 0)) → stk s s2 o → KP X PR d dd Q o (sC p + 1) s2 := by
          have := Hok
          simp only [eR] at this
          exact this
        have ha := hd1.1
        have hB := hPB.2.2.2 (sA p) ha
        have n40 : B (sA p) ≠ 40 := fun q => h40 ⟨ha, q⟩
        have n123 : B (sA p) ≠ 123 := fun q => h123 ⟨ha, q⟩
        obtain ⟨s1, hs1⟩ : ∃ s1, s1 = uF (uF s 163 14 0) 163 13 (nI (sA p + 1)) := ⟨_, rfl⟩
        have F1 : pf s s1 := by rw [hs1]; exact ((pf.rf s).sF (by omega)).sF (by omega)
        have e1 : ∀ k, k ≠ 13 → k ≠ 14 → qF s1 163 k = qF s 163 k := fun k a1 a2 => by rw [hs1, qF_uFk a1, qF_uFk a2]
        have e13 : qF s1 163 13 = nI (sA p + 1) := by rw [hs1, qF_uFs]
        have e14 : qF s1 163 14 = 0 := by rw [hs1, qF_uFk (by decide), qF_uFs]
        have e26 : qF s1 163 26 = nI o := by rw [e1 26 (by decide) (by decide)]; exact h26
        have eE : qE s1 = qE s := by rw [hs1]; rfl
        have b10 : ∀ L2, qW X PR (d - 1) (some .int) cd_Model_faultOf 10 [some (.ref (163)), some (.int (nI dd)), L2, some (.int (nI (B (sA p) - 48)))] [] s1 Q := by
          intro L2
          have go : ∀ (dn : Nat) (s2 : QST), dn = (if o = 0 then 1 else 0) → s2 = uF s1 163 27 (nI dn) → ∀ (Qp : QPost), (∀ s', LH X PR d dd Q s' → Qp none s') → qP X PR (d - 1) 185 [.ref 163, .int (nI (sC p))] (uF (uE (uE (uE (uE (uE s2 173 (sC p) 0) 174 (sC p) (-1)) 175 (sC p) (-1)) 176 (sC p) (nI (B (sA p) - 48))) 177 (sC p) 0) 163 15 (nI (sC p + 1))) Qp := by
            intro dn s2 hdn hs2 Qp hQp
            have F2 : pf s1 (uF (uE (uE (uE (uE (uE s2 173 (sC p) 0) 174 (sC p) (-1)) 175 (sC p) (-1)) 176 (sC p) (nI (B (sA p) - 48))) 177 (sC p) 0) 163 15 (nI (sC p + 1))) := by
              rw [hs2]
              exact (((((((pf.rf s1).sF (by omega)).sE (by omega)).sE (by omega)).sE (by omega)).sE (by omega)).sE (by omega)).sF (by omega)
            have n2 : ndr (uF (uE (uE (uE (uE (uE s2 173 (sC p) 0) 174 (sC p) (-1)) 175 (sC p) (-1)) 176 (sC p) (nI (B (sA p) - 48))) 177 (sC p) 0) 163 15 (nI (sC p + 1))) (sC p + 1) (updN (sU p) (sC p) (0, 0, 0, B (sA p) - 48, 0)) := by
              have hN2 : ndr s2 (sC p) (sU p) := hN.cg (fun k _ _ => by rw [hs2, qE_uF, eE])
              exact (hN2.add (k := 0) (l := -1) (r := -1) (x := nI (B (sA p) - 48)) (y := 0) (t := (0, 0, 0, B (sA p) - 48, 0)) rfl (fun q => absurd rfl q) rfl (fun q => absurd q (show ¬ (0 : Nat) = 2 by decide))).cg (fun k _ _ => rfl)
            have f2 : ∀ k, k ≠ 15 → k ≠ 27 → qF (uF (uE (uE (uE (uE (uE s2 173 (sC p) 0) 174 (sC p) (-1)) 175 (sC p) (-1)) 176 (sC p) (nI (B (sA p) - 48))) 177 (sC p) 0) 163 15 (nI (sC p + 1))) 163 k = qF s1 163 k := fun k a1 a2 => by rw [qF_uFk a1, qF_uE, qF_uE, qF_uE, qF_uE, qF_uE, hs2, qF_uFk a2]
            have hK := Hok _ (F1.trans F2) ⟨by rw [f2 13 (by decide) (by decide)]; exact e13, by rw [f2 14 (by decide) (by decide)]; exact e14, qF_uFs, by rw [f2 16 (by decide) (by decide), e1 16 (by decide) (by decide)]; exact h16, by rw [f2 26 (by decide) (by decide)]; exact e26, by rw [qF_uFk (by decide), qF_uE, qF_uE, qF_uE, qF_uE, qF_uE, hs2, qF_uFs, hdn]⟩ n2 (stk.of (fun k h1 h2 => by rw [qE_uF, qE_uEc (by omega), qE_uEc (by omega), qE_uEc (by omega), qE_uEc (by omega), qE_uEc (by omega), hs2, qE_uF, eE]))
            refine w_part_run hP (by omega) (o := o) (by rw [f2 26 (by decide) (by decide)]; exact e26) ho (nI (sC p)) ?_
            have := hK (d - 1 - 1) Qp (nI (sC p)) none (by omega) hQp
            rw [Nat.add_sub_cancel] at this
            exact this
          have g15 : ∀ v, qF (uF s1 163 27 v) 163 15 = nI (sC p) := fun v => by rw [qF_uFk (by decide), e1 15 (by decide) (by decide)]; exact h15
          by_cases h0 : o = 0
          · refine qW.blk rfl ?_
            refine qv_aload rfl ?_
            refine qv_aload rfl ?_
            refine qv_gi ly_163 ⟨rfl, rfl, rfl⟩ (e26) ?_
            refine qv_if_neNf rfl (by omega) (by omega) (nx := 11) rfl ?_
            refine qW.blk rfl ?_
            refine qv_iconst (v := 1) rfl ?_
            refine qv_goto (tgt := 13) rfl ?_
            refine qW.blk rfl ?_
            refine qv_pi ly_163 ⟨rfl, rfl, rfl⟩ (rfl) ?_
            refine qv_aload rfl ?_
            refine qv_aload rfl ?_
            refine qv_iconst (v := 0) rfl ?_
            refine qv_iconst (v := (-1)) rfl ?_
            refine qv_iconst (v := (-1)) rfl ?_
            refine qv_iload rfl ?_
            refine qv_iconst (v := 0) rfl ?_
            refine qv_virt (ly_163.rcv _) sg_Model_add rfl rfl (w_madd hP (by omega) 0 (-1) (-1) (nI (B (sA p) - 48)) 0 (g15 _) (by omega) ?_) 
            refine qv_virt (ly_163.rcv _) sg_Model_part rfl rfl (go 1 _ (if_pos h0).symm rfl _ (fun s4 W4 => ?_)) 
            refine qv_nil (nx := 14) rfl ?_
            refine qW.blk rfl ?_
            refine qv_goto (tgt := 1) rfl ?_
            exact W4 _ _
          · refine qW.blk rfl ?_
            refine qv_aload rfl ?_
            refine qv_aload rfl ?_
            refine qv_gi ly_163 ⟨rfl, rfl, rfl⟩ (e26) ?_
            refine qv_if_neNt rfl (by omega) (by omega) (tgt := 12) rfl ?_
            refine qW.blk rfl ?_
            refine qv_iconst (v := 0) rfl ?_
            refine qv_nil (nx := 13) rfl ?_
            refine qW.blk rfl ?_
            refine qv_pi ly_163 ⟨rfl, rfl, rfl⟩ (rfl) ?_
            refine qv_aload rfl ?_
            refine qv_aload rfl ?_
            refine qv_iconst (v := 0) rfl ?_
            refine qv_iconst (v := (-1)) rfl ?_
            refine qv_iconst (v := (-1)) rfl ?_
            refine qv_iload rfl ?_
            refine qv_iconst (v := 0) rfl ?_
            refine qv_virt (ly_163.rcv _) sg_Model_add rfl rfl (w_madd hP (by omega) 0 (-1) (-1) (nI (B (sA p) - 48)) 0 (g15 _) (by omega) ?_) 
            refine qv_virt (ly_163.rcv _) sg_Model_part rfl rfl (go 0 _ (if_neg h0).symm rfl _ (fun s4 W4 => ?_)) 
            refine qv_nil (nx := 14) rfl ?_
            refine qW.blk rfl ?_
            refine qv_goto (tgt := 1) rfl ?_
            exact W4 _ _
        subst hs1
        refine qW.blk rfl ?_
        refine qv_aload rfl ?_
        refine qv_gi ly_163 ⟨rfl, rfl, rfl⟩ (rfl) ?_
        refine qv_if_ne_f (fun q => q h14) (nx := 2) rfl ?_
        refine qW.blk rfl ?_
        refine qv_aload rfl ?_
        refine qv_gi ly_163 ⟨rfl, rfl, rfl⟩ (rfl) ?_
        refine qv_if_ne_f (fun q => q h27) (nx := 3) rfl ?_
        refine qW.blk rfl ?_
        refine qv_aload rfl ?_
        refine qv_virtE (ly_163.rcv _) sg_Model_here rfl rfl (r_here_y hP (by omega) hPB hdd hz h13 ha) ?_
        refine qv_istore (L' := [_, _, _, _]) rfl ?_
        refine qv_iload rfl ?_
        refine qv_iconst (v := 40) rfl ?_
        refine qv_icmp_eqNf (q := 40) rfl rfl (by omega) (by omega) (by omega) (nx := 4) rfl ?_
        refine qW.blk rfl ?_
        refine qv_iload rfl ?_
        refine qv_iconst (v := 123) rfl ?_
        refine qv_icmp_neNt (q := 123) rfl rfl (by omega) (by omega) (by omega) (tgt := 9) rfl ?_
        refine qW.blk rfl ?_
        refine qv_aload rfl ?_
        refine qv_virt (ly_163.rcv _) sg_Model_readEnd rfl rfl (w_mend_y hP (by omega) (a := sA p) hPB hdd hz hn1 hn h13 hd1 ?_) 
        refine qv_istore (L' := [_, _, _, _]) rfl ?_
        refine qv_aload rfl ?_
        refine qv_gi ly_163 ⟨rfl, rfl, rfl⟩ (rfl) ?_
        refine qv_if_ne_f (fun q => q e14) (nx := 10) rfl ?_
        exact b10 _
      · have Hbad := Hbad (by show (if isd B z n (sA p) then ((1, pLeaf B p) : Nat × PS) else (0, p)).1 = 0; rw [if_neg hd1])
        have eR : (if isd B z n (sA p) then ((1, pLeaf B p) : Nat × PS) else (0, p)) = (0, p) := if_neg hd1
        have Hbad : ∀ s2, pf s s2 → qF s2 163 13 = nI (sA p) → qF s2 163 14 = 1 → LH X PR d dd Q s2 := by
          have := Hbad
          simp only [eR] at this
          exact this
        have e14 : qF (uF (uF s 163 14 1) 163 13 (nI (sA p))) 163 14 = 1 := by rw [qF_uFk (by decide), qF_uFs]
        have fin := Hbad (uF (uF s 163 14 1) 163 13 (nI (sA p))) (((pf.rf s).sF (by omega)).sF (by omega)) qF_uFs e14
        by_cases ha : sA p < z
        · have hB := hPB.2.2.2 (sA p) ha
          have n40 : B (sA p) ≠ 40 := fun q => h40 ⟨ha, q⟩
          have n123 : B (sA p) ≠ 123 := fun q => h123 ⟨ha, q⟩
          refine qW.blk rfl ?_
          refine qv_aload rfl ?_
          refine qv_gi ly_163 ⟨rfl, rfl, rfl⟩ (rfl) ?_
          refine qv_if_ne_f (fun q => q h14) (nx := 2) rfl ?_
          refine qW.blk rfl ?_
          refine qv_aload rfl ?_
          refine qv_gi ly_163 ⟨rfl, rfl, rfl⟩ (rfl) ?_
          refine qv_if_ne_f (fun q => q h27) (nx := 3) rfl ?_
          refine qW.blk rfl ?_
          refine qv_aload rfl ?_
          refine qv_virtE (ly_163.rcv _) sg_Model_here rfl rfl (r_here_y hP (by omega) hPB hdd hz h13 ha) ?_
          refine qv_istore (L' := [_, _, _, _]) rfl ?_
          refine qv_iload rfl ?_
          refine qv_iconst (v := 40) rfl ?_
          refine qv_icmp_eqNf (q := 40) rfl rfl (by omega) (by omega) (by omega) (nx := 4) rfl ?_
          refine qW.blk rfl ?_
          refine qv_iload rfl ?_
          refine qv_iconst (v := 123) rfl ?_
          refine qv_icmp_neNt (q := 123) rfl rfl (by omega) (by omega) (by omega) (tgt := 9) rfl ?_
          refine qW.blk rfl ?_
          refine qv_aload rfl ?_
          refine qv_virt (ly_163.rcv _) sg_Model_readEnd rfl rfl (w_mend_n hP (by omega) (a := sA p) hPB hdd hz hn1 hn h13 haz hd1 (fun v => ?_)) 
          refine qv_istore (L' := [_, _, _, _]) rfl ?_
          refine qv_aload rfl ?_
          refine qv_gi ly_163 ⟨rfl, rfl, rfl⟩ (rfl) ?_
          refine qv_if_ne_t (fun q => absurd (q.symm.trans e14) (by decide)) (tgt := 14) rfl ?_
          refine qW.blk rfl ?_
          refine qv_goto (tgt := 1) rfl ?_
          exact fin _ _
        · refine qW.blk rfl ?_
          refine qv_aload rfl ?_
          refine qv_gi ly_163 ⟨rfl, rfl, rfl⟩ (rfl) ?_
          refine qv_if_ne_f (fun q => q h14) (nx := 2) rfl ?_
          refine qW.blk rfl ?_
          refine qv_aload rfl ?_
          refine qv_gi ly_163 ⟨rfl, rfl, rfl⟩ (rfl) ?_
          refine qv_if_ne_f (fun q => q h27) (nx := 3) rfl ?_
          refine qW.blk rfl ?_
          refine qv_aload rfl ?_
          refine qv_virtE (ly_163.rcv _) sg_Model_here rfl rfl (r_here_n hP (by omega) hPB hz h13 ha haz) ?_
          refine qv_istore (L' := [_, _, _, _]) rfl ?_
          refine qv_iload rfl ?_
          refine qv_iconst (v := 40) rfl ?_
          refine qv_icmp_eq_f (by decide) (nx := 4) rfl ?_
          refine qW.blk rfl ?_
          refine qv_iload rfl ?_
          refine qv_iconst (v := 123) rfl ?_
          refine qv_icmp_ne_t (by decide) (tgt := 9) rfl ?_
          refine qW.blk rfl ?_
          refine qv_aload rfl ?_
          refine qv_virt (ly_163.rcv _) sg_Model_readEnd rfl rfl (w_mend_n hP (by omega) (a := sA p) hPB hdd hz hn1 hn h13 haz hd1 (fun v => ?_)) 
          refine qv_istore (L' := [_, _, _, _]) rfl ?_
          refine qv_aload rfl ?_
          refine qv_gi ly_163 ⟨rfl, rfl, rfl⟩ (rfl) ?_
          refine qv_if_ne_t (fun q => absurd (q.symm.trans e14) (by decide)) (tgt := 14) rfl ?_
          refine qW.blk rfl ?_
          refine qv_goto (tgt := 1) rfl ?_
          exact fin _ _
    exact lp
  intro r
  induction r with
  | zero =>
    intro o s p ho hPB hR hN hcb haz
    have o6 : o = 6 := by omega
    subst o6
    have hR' := hR
    obtain ⟨h13, h14, h15, h16, h26, h27⟩ := hR
    by_cases h40 : isc B z 40 (sA p)
    · have e0 : pp B z n 0 p = (0, p) := if_neg (fun q => by have := q.2.1; have := h40.2; omega)
      intro Hok Hbad L2 L3
      rw [e0] at Hbad
      have ha := h40.1
      have e40 := h40.2
      have lp : qW X PR (d - 1) (some .int) cd_Model_faultOf 1 [some (.ref (163)), some (.int (nI dd)), L2, L3] [] s Q := by
        refine qW.blk rfl ?_
        refine qv_aload rfl ?_
        refine qv_gi ly_163 ⟨rfl, rfl, rfl⟩ (rfl) ?_
        refine qv_if_ne_f (fun q => q h14) (nx := 2) rfl ?_
        refine qW.blk rfl ?_
        refine qv_aload rfl ?_
        refine qv_gi ly_163 ⟨rfl, rfl, rfl⟩ (rfl) ?_
        refine qv_if_ne_f (fun q => q h27) (nx := 3) rfl ?_
        refine qW.blk rfl ?_
        refine qv_aload rfl ?_
        refine qv_virtE (ly_163.rcv _) sg_Model_here rfl rfl (r_here_y hP (by omega) hPB hdd hz h13 ha) ?_
        refine qv_istore (L' := [_, _, _, _]) rfl ?_
        refine qv_iload rfl ?_
        refine qv_iconst (v := 40) rfl ?_
        refine qv_icmp_eqNt (q := 40) rfl rfl (by omega) (by omega) (by omega) (tgt := 5) rfl ?_
        refine qW.blk rfl ?_
        refine qv_aload rfl ?_
        refine qv_iload rfl ?_
        refine qv_iconst (v := 40) rfl ?_
        refine qv_icmp_neNf (q := 40) rfl rfl (by omega) (by omega) (by omega) (nx := 6) rfl ?_
        refine qW.blk rfl ?_
        refine qv_iconst (v := 1) rfl ?_
        refine qv_goto (tgt := 8) rfl ?_
        refine qW.blk rfl ?_
        refine qv_virt (ly_163.rcv _) sg_Model_begin rfl rfl (w_begin6 hP (by omega) hR' _ (fun s1 F1 q1 q2 => ?_)) 
        refine qv_goto (tgt := 14) rfl ?_
        refine qW.blk rfl ?_
        refine qv_goto (tgt := 1) rfl ?_
        exact Hbad rfl s1 F1 q1 q2 _ _
      exact lp
    by_cases h123 : isc B z 123 (sA p)
    · have e0 : pp B z n 0 p = (0, p) := if_neg (fun q => by have := q.2.2; have := h123.2; omega)
      intro Hok Hbad L2 L3
      rw [e0] at Hbad
      have ha := h123.1
      have e123 := h123.2
      have lp : qW X PR (d - 1) (some .int) cd_Model_faultOf 1 [some (.ref (163)), some (.int (nI dd)), L2, L3] [] s Q := by
        refine qW.blk rfl ?_
        refine qv_aload rfl ?_
        refine qv_gi ly_163 ⟨rfl, rfl, rfl⟩ (rfl) ?_
        refine qv_if_ne_f (fun q => q h14) (nx := 2) rfl ?_
        refine qW.blk rfl ?_
        refine qv_aload rfl ?_
        refine qv_gi ly_163 ⟨rfl, rfl, rfl⟩ (rfl) ?_
        refine qv_if_ne_f (fun q => q h27) (nx := 3) rfl ?_
        refine qW.blk rfl ?_
        refine qv_aload rfl ?_
        refine qv_virtE (ly_163.rcv _) sg_Model_here rfl rfl (r_here_y hP (by omega) hPB hdd hz h13 ha) ?_
        refine qv_istore (L' := [_, _, _, _]) rfl ?_
        refine qv_iload rfl ?_
        refine qv_iconst (v := 40) rfl ?_
        refine qv_icmp_eqNf (q := 40) rfl rfl (by omega) (by omega) (by omega) (nx := 4) rfl ?_
        refine qW.blk rfl ?_
        refine qv_iload rfl ?_
        refine qv_iconst (v := 123) rfl ?_
        refine qv_icmp_neNf (q := 123) rfl rfl (by omega) (by omega) (by omega) (nx := 5) rfl ?_
        refine qW.blk rfl ?_
        refine qv_aload rfl ?_
        refine qv_iload rfl ?_
        refine qv_iconst (v := 40) rfl ?_
        refine qv_icmp_neNt (q := 40) rfl rfl (by omega) (by omega) (by omega) (tgt := 7) rfl ?_
        refine qW.blk rfl ?_
        refine qv_iconst (v := 2) rfl ?_
        refine qv_nil (nx := 8) rfl ?_
        refine qW.blk rfl ?_
        refine qv_virt (ly_163.rcv _) sg_Model_begin rfl rfl (w_begin6 hP (by omega) hR' _ (fun s1 F1 q1 q2 => ?_)) 
        refine qv_goto (tgt := 14) rfl ?_
        refine qW.blk rfl ?_
        refine qv_goto (tgt := 1) rfl ?_
        exact Hbad rfl s1 F1 q1 q2 _ _
      exact lp
    exact leaf 6 s p (by omega) hPB hR' hN hcb haz h40 h123
  | succ r ih =>
    intro o s p ho hPB hR hN hcb haz
    have hR' := hR
    obtain ⟨h13, h14, h15, h16, h26, h27⟩ := hR
    by_cases h40 : isc B z 40 (sA p)
    · have e0 : pp B z n (r + 1) p = pPair (pp B z n r) B z 1 (sB p) (sQ p) 0 118 41 (pOpen p 1 1 (sQ p) 0) := if_pos h40
      intro Hok Hbad L2 L3
      rw [e0] at Hok Hbad
      have ha := h40.1
      have e40 := h40.2
      have lp : qW X PR (d - 1) (some .int) cd_Model_faultOf 1 [some (.ref (163)), some (.int (nI dd)), L2, L3] [] s Q := by
        refine qW.blk rfl ?_
        refine qv_aload rfl ?_
        refine qv_gi ly_163 ⟨rfl, rfl, rfl⟩ (rfl) ?_
        refine qv_if_ne_f (fun q => q h14) (nx := 2) rfl ?_
        refine qW.blk rfl ?_
        refine qv_aload rfl ?_
        refine qv_gi ly_163 ⟨rfl, rfl, rfl⟩ (rfl) ?_
        refine qv_if_ne_f (fun q => q h27) (nx := 3) rfl ?_
        refine qW.blk rfl ?_
        refine qv_aload rfl ?_
        refine qv_virtE (ly_163.rcv _) sg_Model_here rfl rfl (r_here_y hP (by omega) hPB hdd hz h13 ha) ?_
        refine qv_istore (L' := [_, _, _, _]) rfl ?_
        refine qv_iload rfl ?_
        refine qv_iconst (v := 40) rfl ?_
        refine qv_icmp_eqNt (q := 40) rfl rfl (by omega) (by omega) (by omega) (tgt := 5) rfl ?_
        refine qW.blk rfl ?_
        refine qv_aload rfl ?_
        refine qv_iload rfl ?_
        refine qv_iconst (v := 40) rfl ?_
        refine qv_icmp_neNf (q := 40) rfl rfl (by omega) (by omega) (by omega) (nx := 6) rfl ?_
        refine qW.blk rfl ?_
        refine qv_iconst (v := 1) rfl ?_
        refine qv_goto (tgt := 8) rfl ?_
        refine qW.blk rfl ?_
        refine qv_virt (ly_163.rcv _) sg_Model_begin rfl rfl (w_begin1 hP (by omega) hR' hN (by omega) (fun s1 F1 R1 N1 K1 T1 => ?_)) 
        refine qv_goto (tgt := 14) rfl ?_
        refine qW.blk rfl ?_
        refine qv_goto (tgt := 1) rfl ?_
        exact w_mpair hP hdd hz ih (kd := 1) (x := sQ p) (y := 0) (len := 1) (p := p) ho (Nat.le_refl 1) (hPB.fr F1) R1 N1 T1 (Or.inl rfl) hcb h40.1 (fun h s2 F2 a b c => Hok h s2 (F1.trans F2) a b (K1.trans c)) (fun h s2 F2 a b => Hbad h s2 (F1.trans F2) a b) _ _
      exact lp
    by_cases h123 : isc B z 123 (sA p)
    · intro Hok Hbad L2 L3
      have ha := h123.1
      have e123 := h123.2
      have hB := hPB.2.2.2 (sA p) ha
      unfold pp at Hok Hbad
      rw [if_neg h40, if_pos h123] at Hok Hbad
      have lp : qW X PR (d - 1) (some .int) cd_Model_faultOf 1 [some (.ref (163)), some (.int (nI dd)), L2, L3] [] s Q := by
        have bg : ∀ (d' : Nat) (Qp : QPost), 4 ≤ d' → (∀ s', LH X PR d dd Q s' → Qp none s') → qP X PR d' 181 [.ref 163, .int (nI 2)] s Qp := by
          intro d' Qp hd' hQp
          refine w_begin2 hP hd' hPB hdd hz hn1 hn hR' hN (by omega) ha (fun f hf s1 F1 q1 q2 => hQp s1 ?_) (fun c1 c2 c3 c4 s1 F1 R1 N1 K1 T1 => hQp s1 ?_)
          · rcases hf with ⟨c1, e⟩ | ⟨c1, c2, e⟩ | ⟨c1, c2, c3, e⟩ | ⟨c1, c2, c3, c4, e⟩
            · rw [if_neg c1] at Hbad
              subst e
              exact Hbad rfl s1 F1 q1 q2
            · rw [if_pos c1, if_neg c2] at Hbad
              subst e
              exact Hbad rfl s1 F1 q1 q2
            · rw [if_pos c1, if_pos c2, if_neg c3] at Hbad
              subst e
              exact Hbad rfl s1 F1 q1 q2
            · rw [if_pos c1, if_pos c2, if_pos c3, if_neg c4] at Hbad
              subst e
              exact Hbad rfl s1 F1 q1 q2
          · rw [if_pos c1, if_pos c2, if_pos c3, if_pos c4] at Hok Hbad
            exact w_mpair hP hdd hz ih (kd := 2) (x := B (sA p + 1) - 48) (y := B (sA p + 3) - 48) (len := 5) (p := p) ho (by decide) (hPB.fr F1) R1 N1 T1 (Or.inr rfl) hcb (by have := c4.1; omega) (fun h s2 F2 a b c => Hok h s2 (F1.trans F2) a b (K1.trans c)) (fun h s2 F2 a b => Hbad h s2 (F1.trans F2) a b)
        refine qW.blk rfl ?_
        refine qv_aload rfl ?_
        refine qv_gi ly_163 ⟨rfl, rfl, rfl⟩ (rfl) ?_
        refine qv_if_ne_f (fun q => q h14) (nx := 2) rfl ?_
        refine qW.blk rfl ?_
        refine qv_aload rfl ?_
        refine qv_gi ly_163 ⟨rfl, rfl, rfl⟩ (rfl) ?_
        refine qv_if_ne_f (fun q => q h27) (nx := 3) rfl ?_
        refine qW.blk rfl ?_
        refine qv_aload rfl ?_
        refine qv_virtE (ly_163.rcv _) sg_Model_here rfl rfl (r_here_y hP (by omega) hPB hdd hz h13 ha) ?_
        refine qv_istore (L' := [_, _, _, _]) rfl ?_
        refine qv_iload rfl ?_
        refine qv_iconst (v := 40) rfl ?_
        refine qv_icmp_eqNf (q := 40) rfl rfl (by omega) (by omega) (by omega) (nx := 4) rfl ?_
        refine qW.blk rfl ?_
        refine qv_iload rfl ?_
        refine qv_iconst (v := 123) rfl ?_
        refine qv_icmp_neNf (q := 123) rfl rfl (by omega) (by omega) (by omega) (nx := 5) rfl ?_
        refine qW.blk rfl ?_
        refine qv_aload rfl ?_
        refine qv_iload rfl ?_
        refine qv_iconst (v := 40) rfl ?_
        refine qv_icmp_neNt (q := 40) rfl rfl (by omega) (by omega) (by omega) (tgt := 7) rfl ?_
        refine qW.blk rfl ?_
        refine qv_iconst (v := 2) rfl ?_
        refine qv_nil (nx := 8) rfl ?_
        refine qW.blk rfl ?_
        refine qv_virt (ly_163.rcv _) sg_Model_begin rfl rfl (bg _ _ (by omega) (fun s1 W1 => ?_)) 
        refine qv_goto (tgt := 14) rfl ?_
        refine qW.blk rfl ?_
        refine qv_goto (tgt := 1) rfl ?_
        exact W1 _ _
      exact lp
    have e0 : ∀ q, sA q = sA p → pp B z n (r + 1) q = (if isd B z n (sA q) then (1, pLeaf B q) else (0, q)) := fun q hq => by
      unfold pp
      rw [if_neg (by rw [hq]; exact h40), if_neg (by rw [hq]; exact h123)]
    have := leaf o s p (by omega) hPB hR' hN hcb haz h40 h123
    unfold MRd at this ⊢
    rw [e0 p rfl]
    exact this
end
