/-! the class reads a part of a text -/
section
variable {X : pm_X} {PR : pm_P} {s : QST} {Q : QPost} {TB z n : Nat} {B : Nat → Nat}
theorem w_pair_y (hP : pm_np PR) {d : Nat} (hd : 3 ≤ d) {a b : Nat} (hT : RT s TB z n B) (hTB : qLY TB (0, 120, [])) (hTB2 : 123 ≤ TB) (hz : z ≤ 120) (hn : n ≤ 7) (hb : b < 120) (h3 : qF s 70 3 = nI a) (c1 : isd B z n a) (c2 : isc B z 62 (a + 1)) (c3 : isd B z n (a + 2)) (c4 : isc B z 58 (a + 3)) (hk : ∀ s', rdf s s' → (∀ k, k ≠ 3 → qF s' 70 k = qF s 70 k) → qF s' 70 3 = nI (a + 4) → (∀ j, qE s' 73 j = if j = b then nI ((B a - 48) * 7 + (B (a + 2) - 48)) else qE s 73 j) → qE s' 71 = qE s 71 → qE s' 72 = qE s 72 → Q (some (.int 1)) s') : qP X PR d 94 [.ref 70, .int (nI b)] s Q := by
  have b1 := c1.2.2
  have b3 := c3.2.2
  have F1 : rdf s (uF s 70 3 (nI (a + 1))) := (rdf.rf s).uF (by omega)
  have F2 : rdf s (uF (uF s 70 3 (nI (a + 1))) 70 3 (nI (a + 1 + 1))) := F1.uF (by omega)
  have F3 : rdf s (uF (uF (uF s 70 3 (nI (a + 1))) 70 3 (nI (a + 1 + 1))) 70 3 (nI (a + 2 + 1))) := F2.uF (by omega)
  have F4 : rdf s (uE (uF (uF (uF s 70 3 (nI (a + 1))) 70 3 (nI (a + 1 + 1))) 70 3 (nI (a + 2 + 1))) 73 b (nI ((B a - 48) * 7 + (B (a + 2) - 48)))) := F3.uE (by omega)
  refine qP.of (L := [_, _, _, _]) (by omega) (hP _ rfl) ms_Reader_readPair rfl ?_
  show qW X PR (d - 1) (some .boolean) cd_Reader_readPair 0 _ _ _ _
  refine qW.blk rfl ?_
  refine qv_aload rfl ?_
  refine qv_virt (ly_70.rcv _) sg_Reader_readEnd rfl rfl (w_rend_y hP (by omega) hT hTB hz hn h3 c1 ?_) 
  refine qv_istore (L' := [_, _, _, _]) rfl ?_
  refine qv_iload rfl ?_
  refine qv_if_ltNf rfl (by omega) (by omega) (nx := 1) rfl ?_
  refine qW.blk rfl ?_
  refine qv_aload rfl ?_
  refine qv_iconst (v := 62) rfl ?_
  refine qv_virt (ly_70.rcv _) sg_Reader_readSign rfl rfl (w_sign_y hP (by omega) (c := 62) (hT.fr hTB2 F1) hTB hz qF_uFs (by decide) c2 ?_) 
  refine qv_if_ne_t (by decide) (tgt := 3) rfl ?_
  refine qW.blk rfl ?_
  refine qv_aload rfl ?_
  refine qv_virt (ly_70.rcv _) sg_Reader_readEnd rfl rfl (w_rend_y hP (by omega) (a := a + 2) (hT.fr hTB2 F2) hTB hz hn qF_uFs c3 ?_) 
  refine qv_istore (L' := [_, _, _, _]) rfl ?_
  refine qv_iload rfl ?_
  refine qv_if_ge_t (nI_pos' (by omega)) (tgt := 5) rfl ?_
  refine qW.blk rfl ?_
  refine qv_aload rfl ?_
  refine qv_gr ly_70 ⟨rfl, rfl, rfl⟩ (by omega) ?_
  refine qv_iload rfl ?_
  refine qv_iload rfl ?_
  refine qv_iconst (v := 7) rfl ?_
  refine qv_imulN (q := 7) rfl rfl ?_
  refine qv_iload rfl ?_
  refine qv_iaddN rfl rfl ?_
  refine qv_is ly_73 rfl (by omega) (by decide) ?_
  refine qv_aload rfl ?_
  refine qv_iconst (v := 58) rfl ?_
  refine qv_virt (ly_70.rcv _) sg_Reader_readSign rfl rfl (w_sign_y hP (by omega) (a := a + 3) (c := 58) (hT.fr hTB2 F4) hTB hz (by rw [qF_uE, qF_uFs]) (by decide) c4 ?_) 
  refine qv_iret (by first | exact bI_ret | rfl) ?_
  refine hk _ (F4.uF (by omega)) (fun k hk3 => ?_) qF_uFs (fun j => ?_) ?_ ?_
  · rw [qF_uFk hk3, qF_uE, qF_uFk hk3, qF_uFk hk3, qF_uFk hk3]
  · rw [qE_uF, qE_uE, qE_uF, qE_uF, qE_uF]
    by_cases e : j = b
    · rw [if_pos ⟨rfl, e⟩, if_pos e]
    · rw [if_neg (fun q => e q.2), if_neg e]
  · rw [qE_uF, qE_uEc (by decide)]; rfl
  · rw [qE_uF, qE_uEc (by decide)]; rfl
theorem w_pair_n (hP : pm_np PR) {d : Nat} (hd : 3 ≤ d) {a b f : Nat} (hT : RT s TB z n B) (hTB : qLY TB (0, 120, [])) (hTB2 : 123 ≤ TB) (hz : z ≤ 120) (hn : n ≤ 7) (hb : b < 120) (h3 : qF s 70 3 = nI a) (ha : a ≤ z) (hc : (¬ isd B z n a ∧ f = a) ∨ (isd B z n a ∧ ¬ isc B z 62 (a + 1) ∧ f = a + 1) ∨ (isd B z n a ∧ isc B z 62 (a + 1) ∧ ¬ isd B z n (a + 2) ∧ f = a + 2) ∨ (isd B z n a ∧ isc B z 62 (a + 1) ∧ isd B z n (a + 2) ∧ ¬ isc B z 58 (a + 3) ∧ f = a + 3)) (hk : ∀ s', rdf s s' → qF s' 70 3 = nI f → Q (some (.int 0)) s') : qP X PR d 94 [.ref 70, .int (nI b)] s Q := by
  have F1 : rdf s (uF s 70 3 (nI (a + 1))) := (rdf.rf s).uF (by omega)
  have F2 : rdf s (uF (uF s 70 3 (nI (a + 1))) 70 3 (nI (a + 1 + 1))) := F1.uF (by omega)
  have F3 : rdf s (uF (uF (uF s 70 3 (nI (a + 1))) 70 3 (nI (a + 1 + 1))) 70 3 (nI (a + 2 + 1))) := F2.uF (by omega)
  have F4 : rdf s (uE (uF (uF (uF s 70 3 (nI (a + 1))) 70 3 (nI (a + 1 + 1))) 70 3 (nI (a + 2 + 1))) 73 b (nI ((B a - 48) * 7 + (B (a + 2) - 48)))) := F3.uE (by omega)
  refine qP.of (L := [_, _, _, _]) (by omega) (hP _ rfl) ms_Reader_readPair rfl ?_
  show qW X PR (d - 1) (some .boolean) cd_Reader_readPair 0 _ _ _ _
  rcases hc with ⟨c1, hf⟩ | ⟨c1, c2, hf⟩ | ⟨c1, c2, c3, hf⟩ | ⟨c1, c2, c3, c4, hf⟩
  · subst hf
    refine qW.blk rfl ?_
    refine qv_aload rfl ?_
    refine qv_virt (ly_70.rcv _) sg_Reader_readEnd rfl rfl (w_rend_n hP (by omega) hT hTB hz hn h3 ha c1 ?_) 
    refine qv_istore (L' := [_, _, _, _]) rfl ?_
    refine qv_iload rfl ?_
    refine qv_if_lt_t (by decide) (tgt := 2) rfl ?_
    refine qW.blk rfl ?_
    refine qv_iconst (v := 0) rfl ?_
    refine qv_iret (by first | exact bI_ret | rfl) ?_
    exact hk s (rdf.rf s) h3
  · subst hf
    have b1 := c1.2.2
    have z1 := c1.1
    refine qW.blk rfl ?_
    refine qv_aload rfl ?_
    refine qv_virt (ly_70.rcv _) sg_Reader_readEnd rfl rfl (w_rend_y hP (by omega) hT hTB hz hn h3 c1 ?_) 
    refine qv_istore (L' := [_, _, _, _]) rfl ?_
    refine qv_iload rfl ?_
    refine qv_if_ltNf rfl (by omega) (by omega) (nx := 1) rfl ?_
    refine qW.blk rfl ?_
    refine qv_aload rfl ?_
    refine qv_iconst (v := 62) rfl ?_
    refine qv_virt (ly_70.rcv _) sg_Reader_readSign rfl rfl (w_sign_n hP (by omega) (c := 62) (hT.fr hTB2 F1) hTB hz qF_uFs (by omega) (by decide) c2 ?_) 
    refine qv_if_ne_f (fun q => q rfl) (nx := 2) rfl ?_
    refine qW.blk rfl ?_
    refine qv_iconst (v := 0) rfl ?_
    refine qv_iret (by first | exact bI_ret | rfl) ?_
    exact hk _ F1 qF_uFs
  · subst hf
    have b1 := c1.2.2
    have z2 := c2.1
    refine qW.blk rfl ?_
    refine qv_aload rfl ?_
    refine qv_virt (ly_70.rcv _) sg_Reader_readEnd rfl rfl (w_rend_y hP (by omega) hT hTB hz hn h3 c1 ?_) 
    refine qv_istore (L' := [_, _, _, _]) rfl ?_
    refine qv_iload rfl ?_
    refine qv_if_ltNf rfl (by omega) (by omega) (nx := 1) rfl ?_
    refine qW.blk rfl ?_
    refine qv_aload rfl ?_
    refine qv_iconst (v := 62) rfl ?_
    refine qv_virt (ly_70.rcv _) sg_Reader_readSign rfl rfl (w_sign_y hP (by omega) (c := 62) (hT.fr hTB2 F1) hTB hz qF_uFs (by decide) c2 ?_) 
    refine qv_if_ne_t (by decide) (tgt := 3) rfl ?_
    refine qW.blk rfl ?_
    refine qv_aload rfl ?_
    refine qv_virt (ly_70.rcv _) sg_Reader_readEnd rfl rfl (w_rend_n hP (by omega) (a := a + 2) (hT.fr hTB2 F2) hTB hz hn qF_uFs (by omega) c3 ?_) 
    refine qv_istore (L' := [_, _, _, _]) rfl ?_
    refine qv_iload rfl ?_
    refine qv_if_ge_f (by decide) (nx := 4) rfl ?_
    refine qW.blk rfl ?_
    refine qv_iconst (v := 0) rfl ?_
    refine qv_iret (by first | exact bI_ret | rfl) ?_
    exact hk _ F2 qF_uFs
  · subst hf
    have b1 := c1.2.2
    have b3 := c3.2.2
    have z3 := c3.1
    refine qW.blk rfl ?_
    refine qv_aload rfl ?_
    refine qv_virt (ly_70.rcv _) sg_Reader_readEnd rfl rfl (w_rend_y hP (by omega) hT hTB hz hn h3 c1 ?_) 
    refine qv_istore (L' := [_, _, _, _]) rfl ?_
    refine qv_iload rfl ?_
    refine qv_if_ltNf rfl (by omega) (by omega) (nx := 1) rfl ?_
    refine qW.blk rfl ?_
    refine qv_aload rfl ?_
    refine qv_iconst (v := 62) rfl ?_
    refine qv_virt (ly_70.rcv _) sg_Reader_readSign rfl rfl (w_sign_y hP (by omega) (c := 62) (hT.fr hTB2 F1) hTB hz qF_uFs (by decide) c2 ?_) 
    refine qv_if_ne_t (by decide) (tgt := 3) rfl ?_
    refine qW.blk rfl ?_
    refine qv_aload rfl ?_
    refine qv_virt (ly_70.rcv _) sg_Reader_readEnd rfl rfl (w_rend_y hP (by omega) (a := a + 2) (hT.fr hTB2 F2) hTB hz hn qF_uFs c3 ?_) 
    refine qv_istore (L' := [_, _, _, _]) rfl ?_
    refine qv_iload rfl ?_
    refine qv_if_ge_t (nI_pos' (by omega)) (tgt := 5) rfl ?_
    refine qW.blk rfl ?_
    refine qv_aload rfl ?_
    refine qv_gr ly_70 ⟨rfl, rfl, rfl⟩ (by omega) ?_
    refine qv_iload rfl ?_
    refine qv_iload rfl ?_
    refine qv_iconst (v := 7) rfl ?_
    refine qv_imulN (q := 7) rfl rfl ?_
    refine qv_iload rfl ?_
    refine qv_iaddN rfl rfl ?_
    refine qv_is ly_73 rfl (by omega) (by decide) ?_
    refine qv_aload rfl ?_
    refine qv_iconst (v := 58) rfl ?_
    refine qv_virt (ly_70.rcv _) sg_Reader_readSign rfl rfl (w_sign_n hP (by omega) (a := a + 3) (c := 58) (hT.fr hTB2 F4) hTB hz (by rw [qF_uE, qF_uFs]) (by omega) (by decide) c4 ?_) 
    refine qv_iret (by first | exact bI_ret | rfl) ?_
    exact hk _ F4 (by rw [qF_uE, qF_uFs])
end
/-- a part is read as the pure reader says, r levels left -/
def RPc (X : pm_X) (PR : pm_P) (TB z n : Nat) (B : Nat → Nat) (r : Nat) : Prop := ∀ (d dep : Nat) (s : QST) (p : PS) (Q : QPost), 2 * r + 5 ≤ d → dep + r = 6 → RT s TB z n B → RC s p → sB p ≤ sA p → sA p ≤ z → (∀ s', rdf s s' → qF s' 70 3 = nI (sA (pp B z n r p).2) → ((pp B z n r p).1 = 1 → RC s' (pp B z n r p).2) → Q (some (.int (nI (pp B z n r p).1))) s') → qP X PR d 89 [.ref 70, .int (nI dep)] s Q
/-- behind the first part -/
theorem RC_mid {s s2 : QST} {p : PS} {b kd x y : Nat} (h : RC s p) (hb : b < sB p) (hk : kd = 1 ∨ kd = 2) (ht : sT p b = (kd, 0, 0, x, y)) (h3 : qF s2 70 3 = nI (sA p + 1)) (h4 : qF s2 70 4 = qF s 70 4) (e1 : qE s2 71 = qE s 71) (e2 : qE s2 72 = qE (uE s 72 b (nI (sB p))) 72) (e3 : qE s2 73 = qE s 73) : RC s2 (pMid p b kd x y) := by
  obtain ⟨g1, g2, g3⟩ := h
  refine ⟨h3, h4.trans g2, fun j hj => ?_⟩
  have hj' : j < sB p := hj
  show qE s2 71 j = wcd (updN (sT p) b (kd, 0, sB p, x, y) j) ∧ qE s2 72 j = nI (updN (sT p) b (kd, 0, sB p, x, y) j).2.2.1 ∧ qE s2 73 j = pcd (updN (sT p) b (kd, 0, sB p, x, y) j)
  rw [e1, e2, e3]
  obtain ⟨a1, a2, a3⟩ := g3 j hj'
  by_cases e : j = b
  · subst e
    rw [updN_s, qE_uEs]
    rw [ht] at a1 a3
    exact ⟨a1, rfl, a3⟩
  · rw [updN_n e, qE_uEk e]
    exact ⟨a1, a2, a3⟩
section
variable {X : pm_X} {PR : pm_P} {TB z n : Nat} {B : Nat → Nat}
theorem w_readQuestion (hP : pm_np PR) {r : Nat} (IH : RPc X PR TB z n B r) (hTB : qLY TB (0, 120, [])) (hTB2 : 123 ≤ TB) (hz : z ≤ 120) (hn : n ≤ 7) {d dep : Nat} {s : QST} {p : PS} {Q : QPost} (hd : 2 * r + 6 ≤ d) (hdep : dep + (r + 1) = 6) (hT : RT s TB z n B) (hC : RC s p) (hba : sB p ≤ sA p) (haz : sA p ≤ z) (c0 : isc B z 40 (sA p)) (hk : ∀ s', rdf s s' → qF s' 70 3 = nI (sA (pPair (pp B z n r) B z 1 (sB p) (sQ p) 0 118 41 (pOpen p 1 1 (sQ p) 0)).2) → ((pPair (pp B z n r) B z 1 (sB p) (sQ p) 0 118 41 (pOpen p 1 1 (sQ p) 0)).1 = 1 → RC s' (pPair (pp B z n r) B z 1 (sB p) (sQ p) 0 118 41 (pOpen p 1 1 (sQ p) 0)).2) → Q (some (.int (nI (pPair (pp B z n r) B z 1 (sB p) (sQ p) 0 118 41 (pOpen p 1 1 (sQ p) 0)).1))) s') : qP X PR d 90 [.ref 70, .int (nI dep)] s Q := by
  have g1 := pp_good (B := B) (z := z) (n := n) r (pOpen p 1 1 (sQ p) 0)
  obtain ⟨R1, hR1⟩ : ∃ R, pp B z n r (pOpen p 1 1 (sQ p) 0) = R := ⟨_, rfl⟩
  have IH1 : ∀ (d : Nat) (s : QST) (Q : QPost), 2 * r + 5 ≤ d → RT s TB z n B → RC s (pOpen p 1 1 (sQ p) 0) → (∀ s', rdf s s' → qF s' 70 3 = nI (sA R1.2) → (R1.1 = 1 → RC s' R1.2) → Q (some (.int (nI R1.1))) s') → qP X PR d 89 [.ref 70, .int (nI (dep + 1))] s Q := fun d s Q h1 h2 h3 h4 => IH d (dep + 1) s _ Q h1 (by omega) h2 h3 (show sB p + 1 ≤ sA p + 1 by omega) (show sA p + 1 ≤ z by have := c0.1; omega) (by rw [hR1]; exact h4)
  unfold pPair at hk
  rw [hR1] at hk g1
  obtain ⟨a1, a2, a3, a4⟩ := g1
  have a2' : sA p + 1 ≤ sA R1.2 := a2
  have a3' : sA R1.2 ≤ z := a3 (show sA p + 1 ≤ z by have := c0.1; omega)
  have hz0 := c0.1
  refine qP.of (L := [_, _, _]) (by omega) (hP _ rfl) ms_Reader_readQuestion rfl ?_
  show qW X PR (d - 1) (some .boolean) cd_Reader_readQuestion 0 _ _ _ _
  have beg : ∀ (sX : QST), rdf s sX → RC sX (pOpen p 1 1 (sQ p) 0) → qW X PR (d - 1) (some .boolean) cd_Reader_readQuestion 1 [some (.ref (70)), some (.int (nI dep)), some (.int (nI (sB p)))] [] sX Q := by
    intro sX FX CX
    have TX := hT.fr hTB2 FX
    by_cases h1 : R1.1 = 0
    · rw [if_pos h1] at hk
      refine qW.blk rfl ?_
      refine qv_aload rfl ?_
      refine qv_iload rfl ?_
      refine qv_iconst (v := 1) rfl ?_
      refine qv_iaddN (q := 1) rfl rfl ?_
      refine qv_virt (ly_70.rcv _) sg_Reader_readPart rfl rfl (IH1 _ _ _ (by omega) TX CX (fun s3 F3 q3 q4 => ?_)) 
      refine qv_if_eqNt rfl (by omega) (by omega) (tgt := 3) rfl ?_
      refine qW.blk rfl ?_
      refine qv_iconst (v := 0) rfl ?_
      refine qv_iret (by first | exact bI_ret | rfl) ?_
      have := hk s3 (FX.trans F3) q3 q4
      rw [h1] at this
      exact this
    rw [if_neg h1] at hk
    obtain ⟨k1, k2, k3, k4, k5, k6, k7, k8⟩ := a4 (by omega)
    have x1 : sB (pOpen p 1 1 (sQ p) 0) = sB p + 1 := rfl
    have x3 : sA (pOpen p 1 1 (sQ p) 0) = sA p + 1 := rfl
    rw [x1] at k2 k5 k7
    rw [x3] at k1 k5
    by_cases h2 : isc B z 118 (sA R1.2)
    · rw [if_pos h2] at hk
      have hz2 := h2.1
      have g2 := pp_good (B := B) (z := z) (n := n) r (pMid R1.2 (sB p) 1 (sQ p) 0)
      obtain ⟨R2, hR2⟩ : ∃ R, pp B z n r (pMid R1.2 (sB p) 1 (sQ p) 0) = R := ⟨_, rfl⟩
      have IH2 : ∀ (d : Nat) (s : QST) (Q : QPost), 2 * r + 5 ≤ d → RT s TB z n B → RC s (pMid R1.2 (sB p) 1 (sQ p) 0) → (∀ s', rdf s s' → qF s' 70 3 = nI (sA R2.2) → (R2.1 = 1 → RC s' R2.2) → Q (some (.int (nI R2.1))) s') → qP X PR d 89 [.ref 70, .int (nI (dep + 1))] s Q := fun d s Q h1 h2 h3 h4 => IH d (dep + 1) s _ Q h1 (by omega) h2 h3 (show sB R1.2 ≤ sA R1.2 + 1 by omega) (show sA R1.2 + 1 ≤ z by omega) (by rw [hR2]; exact h4)
      rw [hR2] at hk g2
      obtain ⟨d1, d2, d3, d4⟩ := g2
      have d2' : sA R1.2 + 1 ≤ sA R2.2 := d2
      have d3' : sA R2.2 ≤ z := d3 (show sA R1.2 + 1 ≤ z by omega)
      have ht1 : sT R1.2 (sB p) = (1, 0, 0, (sQ p), 0) := by
        rw [(k7 (sB p) (by omega)).1]
        exact updN_s
      have mid : ∀ s3, rdf s s3 → RC s3 R1.2 → rdf s (uE (uF s3 70 3 (nI (sA R1.2 + 1))) 72 (sB p) (nI (sB R1.2))) ∧ RC (uE (uF s3 70 3 (nI (sA R1.2 + 1))) 72 (sB p) (nI (sB R1.2))) (pMid R1.2 (sB p) 1 (sQ p) 0) := fun s3 F3 C3 => ⟨(F3.uF (by omega)).uE (by omega), RC_mid C3 (by omega) (by omega) ht1 (by rw [qF_uE, qF_uFs]) (by rw [qF_uE, qF_uFk (by decide)]) (by rw [qE_uEc (by decide), qE_uF]) (by funext j; rw [qE_uE, qE_uE, qE_uF]) (by rw [qE_uEc (by decide), qE_uF])⟩
      have rb : ∀ s3, RC s3 R1.2 → qF (uF s3 70 3 (nI (sA R1.2 + 1))) 70 4 = nI (sB R1.2) := fun s3 C3 => by rw [qF_uFk (by decide)]; exact C3.2.1
      by_cases h3 : R2.1 = 0
      · rw [if_pos h3] at hk
        refine qW.blk rfl ?_
        refine qv_aload rfl ?_
        refine qv_iload rfl ?_
        refine qv_iconst (v := 1) rfl ?_
        refine qv_iaddN (q := 1) rfl rfl ?_
        refine qv_virt (ly_70.rcv _) sg_Reader_readPart rfl rfl (IH1 _ _ _ (by omega) TX CX (fun s3 F3 q3 q4 => ?_)) 
        refine qv_if_eqNf rfl (by omega) (by omega) (nx := 2) rfl ?_
        refine qW.blk rfl ?_
        refine qv_aload rfl ?_
        refine qv_iconst (v := 118) rfl ?_
        refine qv_virt (ly_70.rcv _) sg_Reader_readSign rfl rfl (w_sign_y hP (by omega) (c := 118) ((TX.fr hTB2 F3)) hTB hz q3 (by decide) h2 ?_) 
        refine qv_if_ne_t (by decide) (tgt := 4) rfl ?_
        refine qW.blk rfl ?_
        refine qv_aload rfl ?_
        refine qv_gr ly_70 ⟨rfl, rfl, rfl⟩ (by omega) ?_
        refine qv_iload rfl ?_
        refine qv_aload rfl ?_
        refine qv_gi ly_70 ⟨rfl, rfl, rfl⟩ (rb s3 (q4 (by omega))) ?_
        refine qv_is ly_72 rfl (by omega) (by decide) ?_
        refine qv_aload rfl ?_
        refine qv_iload rfl ?_
        refine qv_iconst (v := 1) rfl ?_
        refine qv_iaddN (q := 1) rfl rfl ?_
        refine qv_virt (ly_70.rcv _) sg_Reader_readPart rfl rfl (IH2 _ _ _ (by omega) (hT.fr hTB2 (mid s3 (FX.trans F3) (q4 (by omega))).1) (mid s3 (FX.trans F3) (q4 (by omega))).2 (fun s5 F5 q5 q6 => ?_)) 
        refine qv_if_eqNt rfl (by omega) (by omega) (tgt := 7) rfl ?_
        refine qW.blk rfl ?_
        refine qv_iconst (v := 0) rfl ?_
        refine qv_nil (nx := 8) rfl ?_
        refine qW.blk rfl ?_
        refine qv_iret (by first | exact bI_ret | rfl) ?_
        have := hk s5 ((mid s3 (FX.trans F3) (q4 (by omega))).1.trans F5) q5 q6
        rw [h3] at this
        exact this
      rw [if_neg h3] at hk
      by_cases h4 : isc B z 41 (sA R2.2)
      · rw [if_pos h4] at hk
        refine qW.blk rfl ?_
        refine qv_aload rfl ?_
        refine qv_iload rfl ?_
        refine qv_iconst (v := 1) rfl ?_
        refine qv_iaddN (q := 1) rfl rfl ?_
        refine qv_virt (ly_70.rcv _) sg_Reader_readPart rfl rfl (IH1 _ _ _ (by omega) TX CX (fun s3 F3 q3 q4 => ?_)) 
        refine qv_if_eqNf rfl (by omega) (by omega) (nx := 2) rfl ?_
        refine qW.blk rfl ?_
        refine qv_aload rfl ?_
        refine qv_iconst (v := 118) rfl ?_
        refine qv_virt (ly_70.rcv _) sg_Reader_readSign rfl rfl (w_sign_y hP (by omega) (c := 118) ((TX.fr hTB2 F3)) hTB hz q3 (by decide) h2 ?_) 
        refine qv_if_ne_t (by decide) (tgt := 4) rfl ?_
        refine qW.blk rfl ?_
        refine qv_aload rfl ?_
        refine qv_gr ly_70 ⟨rfl, rfl, rfl⟩ (by omega) ?_
        refine qv_iload rfl ?_
        refine qv_aload rfl ?_
        refine qv_gi ly_70 ⟨rfl, rfl, rfl⟩ (rb s3 (q4 (by omega))) ?_
        refine qv_is ly_72 rfl (by omega) (by decide) ?_
        refine qv_aload rfl ?_
        refine qv_iload rfl ?_
        refine qv_iconst (v := 1) rfl ?_
        refine qv_iaddN (q := 1) rfl rfl ?_
        refine qv_virt (ly_70.rcv _) sg_Reader_readPart rfl rfl (IH2 _ _ _ (by omega) (hT.fr hTB2 (mid s3 (FX.trans F3) (q4 (by omega))).1) (mid s3 (FX.trans F3) (q4 (by omega))).2 (fun s5 F5 q5 q6 => ?_)) 
        refine qv_if_eqNf rfl (by omega) (by omega) (nx := 5) rfl ?_
        refine qW.blk rfl ?_
        refine qv_aload rfl ?_
        refine qv_iconst (v := 41) rfl ?_
        refine qv_virt (ly_70.rcv _) sg_Reader_readSign rfl rfl (w_sign_y hP (by omega) (c := 41) (hT.fr hTB2 ((mid s3 (FX.trans F3) (q4 (by omega))).1.trans F5)) hTB hz q5 (by decide) h4 ?_) 
        refine qv_if_eq_f (by decide) (nx := 6) rfl ?_
        refine qW.blk rfl ?_
        refine qv_iconst (v := 1) rfl ?_
        refine qv_goto (tgt := 8) rfl ?_
        refine qW.blk rfl ?_
        refine qv_iret (by first | exact bI_ret | rfl) ?_
        have C5 := q6 (by omega)
        exact hk _ (((mid s3 (FX.trans F3) (q4 (by omega))).1.trans F5).uF (by omega)) qF_uFs (fun _ => ⟨qF_uFs, by rw [qF_uFk (by decide)]; exact C5.2.1, fun j hj => C5.2.2 j hj⟩)
      · rw [if_neg h4] at hk
        refine qW.blk rfl ?_
        refine qv_aload rfl ?_
        refine qv_iload rfl ?_
        refine qv_iconst (v := 1) rfl ?_
        refine qv_iaddN (q := 1) rfl rfl ?_
        refine qv_virt (ly_70.rcv _) sg_Reader_readPart rfl rfl (IH1 _ _ _ (by omega) TX CX (fun s3 F3 q3 q4 => ?_)) 
        refine qv_if_eqNf rfl (by omega) (by omega) (nx := 2) rfl ?_
        refine qW.blk rfl ?_
        refine qv_aload rfl ?_
        refine qv_iconst (v := 118) rfl ?_
        refine qv_virt (ly_70.rcv _) sg_Reader_readSign rfl rfl (w_sign_y hP (by omega) (c := 118) ((TX.fr hTB2 F3)) hTB hz q3 (by decide) h2 ?_) 
        refine qv_if_ne_t (by decide) (tgt := 4) rfl ?_
        refine qW.blk rfl ?_
        refine qv_aload rfl ?_
        refine qv_gr ly_70 ⟨rfl, rfl, rfl⟩ (by omega) ?_
        refine qv_iload rfl ?_
        refine qv_aload rfl ?_
        refine qv_gi ly_70 ⟨rfl, rfl, rfl⟩ (rb s3 (q4 (by omega))) ?_
        refine qv_is ly_72 rfl (by omega) (by decide) ?_
        refine qv_aload rfl ?_
        refine qv_iload rfl ?_
        refine qv_iconst (v := 1) rfl ?_
        refine qv_iaddN (q := 1) rfl rfl ?_
        refine qv_virt (ly_70.rcv _) sg_Reader_readPart rfl rfl (IH2 _ _ _ (by omega) (hT.fr hTB2 (mid s3 (FX.trans F3) (q4 (by omega))).1) (mid s3 (FX.trans F3) (q4 (by omega))).2 (fun s5 F5 q5 q6 => ?_)) 
        refine qv_if_eqNf rfl (by omega) (by omega) (nx := 5) rfl ?_
        refine qW.blk rfl ?_
        refine qv_aload rfl ?_
        refine qv_iconst (v := 41) rfl ?_
        refine qv_virt (ly_70.rcv _) sg_Reader_readSign rfl rfl (w_sign_n hP (by omega) (c := 41) (hT.fr hTB2 ((mid s3 (FX.trans F3) (q4 (by omega))).1.trans F5)) hTB hz q5 d3' (by decide) h4 ?_) 
        refine qv_if_eq_t (rfl) (tgt := 7) rfl ?_
        refine qW.blk rfl ?_
        refine qv_iconst (v := 0) rfl ?_
        refine qv_nil (nx := 8) rfl ?_
        refine qW.blk rfl ?_
        refine qv_iret (by first | exact bI_ret | rfl) ?_
        exact hk _ ((mid s3 (FX.trans F3) (q4 (by omega))).1.trans F5) q5 (fun q => absurd q (show ¬ (0 : Nat) = 1 by decide))
    · rw [if_neg h2] at hk
      refine qW.blk rfl ?_
      refine qv_aload rfl ?_
      refine qv_iload rfl ?_
      refine qv_iconst (v := 1) rfl ?_
      refine qv_iaddN (q := 1) rfl rfl ?_
      refine qv_virt (ly_70.rcv _) sg_Reader_readPart rfl rfl (IH1 _ _ _ (by omega) TX CX (fun s3 F3 q3 q4 => ?_)) 
      refine qv_if_eqNf rfl (by omega) (by omega) (nx := 2) rfl ?_
      refine qW.blk rfl ?_
      refine qv_aload rfl ?_
      refine qv_iconst (v := 118) rfl ?_
      refine qv_virt (ly_70.rcv _) sg_Reader_readSign rfl rfl (w_sign_n hP (by omega) (c := 118) (TX.fr hTB2 F3) hTB hz q3 a3' (by decide) h2 ?_) 
      refine qv_if_ne_f (fun q => q rfl) (nx := 3) rfl ?_
      refine qW.blk rfl ?_
      refine qv_iconst (v := 0) rfl ?_
      refine qv_iret (by first | exact bI_ret | rfl) ?_
      exact hk s3 (FX.trans F3) q3 (fun q => absurd q (show ¬ (0 : Nat) = 1 by decide))
  have F1 : rdf s (uF (uE (uE (uE s 71 (sB p) 7) 72 (sB p) 0) 73 (sB p) 0) 70 4 (nI (sB p + 1))) := ((((rdf.rf s).uE (by omega)).uE (by omega)).uE (by omega)).uF (by omega)
  have F2 : rdf s (uF (uF (uE (uE (uE s 71 (sB p) 7) 72 (sB p) 0) 73 (sB p) 0) 70 4 (nI (sB p + 1))) 70 3 (nI (sA p + 1))) := F1.uF (by omega)
  refine qW.blk rfl ?_
  refine qv_aload rfl ?_
  refine qv_iconst (v := 7) rfl ?_
  refine qv_virt (ly_70.rcv _) sg_Reader_addNode rfl rfl (w_addNode hP (by omega) 7 hC.2.1 (by omega) ?_) 
  refine qv_istore (L' := [_, _, _]) rfl ?_
  refine qv_aload rfl ?_
  refine qv_iconst (v := 40) rfl ?_
  refine qv_virt (ly_70.rcv _) sg_Reader_readSign rfl rfl (w_sign_y hP (by omega) (c := 40) (hT.fr hTB2 F1) hTB hz (by rw [qF_uFk (by decide)]; exact hC.1) (by decide) c0 ?_) 
  refine qv_if_eq_f (by decide) (nx := 1) rfl ?_
  exact beg _ F2 (RC_add (v := 7) hC rfl rfl (fun k hk3 => by rw [qF_uFk hk3]) qF_uFs (fun c _ _ => rfl))
theorem w_readChoice (hP : pm_np PR) {r : Nat} (IH : RPc X PR TB z n B r) (hTB : qLY TB (0, 120, [])) (hTB2 : 123 ≤ TB) (hz : z ≤ 120) (hn : n ≤ 7) {d dep : Nat} {s : QST} {p : PS} {Q : QPost} (hd : 2 * r + 6 ≤ d) (hdep : dep + (r + 1) = 6) (hT : RT s TB z n B) (hC : RC s p) (hba : sB p ≤ sA p) (haz : sA p ≤ z) (c0 : isc B z 123 (sA p)) (c1 : isd B z n (sA p + 1)) (c2 : isc B z 62 (sA p + 2)) (c3 : isd B z n (sA p + 3)) (c4 : isc B z 58 (sA p + 4)) (hk : ∀ s', rdf s s' → qF s' 70 3 = nI (sA (pPair (pp B z n r) B z 2 (sB p) (B (sA p + 1) - 48) (B (sA p + 3) - 48) 47 125 (pOpen p 5 2 (B (sA p + 1) - 48) (B (sA p + 3) - 48))).2) → ((pPair (pp B z n r) B z 2 (sB p) (B (sA p + 1) - 48) (B (sA p + 3) - 48) 47 125 (pOpen p 5 2 (B (sA p + 1) - 48) (B (sA p + 3) - 48))).1 = 1 → RC s' (pPair (pp B z n r) B z 2 (sB p) (B (sA p + 1) - 48) (B (sA p + 3) - 48) 47 125 (pOpen p 5 2 (B (sA p + 1) - 48) (B (sA p + 3) - 48))).2) → Q (some (.int (nI (pPair (pp B z n r) B z 2 (sB p) (B (sA p + 1) - 48) (B (sA p + 3) - 48) 47 125 (pOpen p 5 2 (B (sA p + 1) - 48) (B (sA p + 3) - 48))).1))) s') : qP X PR d 93 [.ref 70, .int (nI dep)] s Q := by
  have g1 := pp_good (B := B) (z := z) (n := n) r (pOpen p 5 2 (B (sA p + 1) - 48) (B (sA p + 3) - 48))
  obtain ⟨R1, hR1⟩ : ∃ R, pp B z n r (pOpen p 5 2 (B (sA p + 1) - 48) (B (sA p + 3) - 48)) = R := ⟨_, rfl⟩
  have IH1 : ∀ (d : Nat) (s : QST) (Q : QPost), 2 * r + 5 ≤ d → RT s TB z n B → RC s (pOpen p 5 2 (B (sA p + 1) - 48) (B (sA p + 3) - 48)) → (∀ s', rdf s s' → qF s' 70 3 = nI (sA R1.2) → (R1.1 = 1 → RC s' R1.2) → Q (some (.int (nI R1.1))) s') → qP X PR d 89 [.ref 70, .int (nI (dep + 1))] s Q := fun d s Q h1 h2 h3 h4 => IH d (dep + 1) s _ Q h1 (by omega) h2 h3 (show sB p + 1 ≤ sA p + 5 by omega) (show sA p + 5 ≤ z by have := c4.1; omega) (by rw [hR1]; exact h4)
  unfold pPair at hk
  rw [hR1] at hk g1
  obtain ⟨a1, a2, a3, a4⟩ := g1
  have a2' : sA p + 5 ≤ sA R1.2 := a2
  have a3' : sA R1.2 ≤ z := a3 (show sA p + 5 ≤ z by have := c4.1; omega)
  have hz0 := c0.1
  refine qP.of (L := [_, _, _]) (by omega) (hP _ rfl) ms_Reader_readChoice rfl ?_
  show qW X PR (d - 1) (some .boolean) cd_Reader_readChoice 0 _ _ _ _
  have beg : ∀ (sX : QST), rdf s sX → RC sX (pOpen p 5 2 (B (sA p + 1) - 48) (B (sA p + 3) - 48)) → qW X PR (d - 1) (some .boolean) cd_Reader_readChoice 2 [some (.ref (70)), some (.int (nI dep)), some (.int (nI (sB p)))] [] sX Q := by
    intro sX FX CX
    have TX := hT.fr hTB2 FX
    by_cases h1 : R1.1 = 0
    · rw [if_pos h1] at hk
      refine qW.blk rfl ?_
      refine qv_aload rfl ?_
      refine qv_iload rfl ?_
      refine qv_iconst (v := 1) rfl ?_
      refine qv_iaddN (q := 1) rfl rfl ?_
      refine qv_virt (ly_70.rcv _) sg_Reader_readPart rfl rfl (IH1 _ _ _ (by omega) TX CX (fun s3 F3 q3 q4 => ?_)) 
      refine qv_if_eqNt rfl (by omega) (by omega) (tgt := 4) rfl ?_
      refine qW.blk rfl ?_
      refine qv_iconst (v := 0) rfl ?_
      refine qv_iret (by first | exact bI_ret | rfl) ?_
      have := hk s3 (FX.trans F3) q3 q4
      rw [h1] at this
      exact this
    rw [if_neg h1] at hk
    obtain ⟨k1, k2, k3, k4, k5, k6, k7, k8⟩ := a4 (by omega)
    have x1 : sB (pOpen p 5 2 (B (sA p + 1) - 48) (B (sA p + 3) - 48)) = sB p + 1 := rfl
    have x3 : sA (pOpen p 5 2 (B (sA p + 1) - 48) (B (sA p + 3) - 48)) = sA p + 5 := rfl
    rw [x1] at k2 k5 k7
    rw [x3] at k1 k5
    by_cases h2 : isc B z 47 (sA R1.2)
    · rw [if_pos h2] at hk
      have hz2 := h2.1
      have g2 := pp_good (B := B) (z := z) (n := n) r (pMid R1.2 (sB p) 2 (B (sA p + 1) - 48) (B (sA p + 3) - 48))
      obtain ⟨R2, hR2⟩ : ∃ R, pp B z n r (pMid R1.2 (sB p) 2 (B (sA p + 1) - 48) (B (sA p + 3) - 48)) = R := ⟨_, rfl⟩
      have IH2 : ∀ (d : Nat) (s : QST) (Q : QPost), 2 * r + 5 ≤ d → RT s TB z n B → RC s (pMid R1.2 (sB p) 2 (B (sA p + 1) - 48) (B (sA p + 3) - 48)) → (∀ s', rdf s s' → qF s' 70 3 = nI (sA R2.2) → (R2.1 = 1 → RC s' R2.2) → Q (some (.int (nI R2.1))) s') → qP X PR d 89 [.ref 70, .int (nI (dep + 1))] s Q := fun d s Q h1 h2 h3 h4 => IH d (dep + 1) s _ Q h1 (by omega) h2 h3 (show sB R1.2 ≤ sA R1.2 + 1 by omega) (show sA R1.2 + 1 ≤ z by omega) (by rw [hR2]; exact h4)
      rw [hR2] at hk g2
      obtain ⟨d1, d2, d3, d4⟩ := g2
      have d2' : sA R1.2 + 1 ≤ sA R2.2 := d2
      have d3' : sA R2.2 ≤ z := d3 (show sA R1.2 + 1 ≤ z by omega)
      have ht1 : sT R1.2 (sB p) = (2, 0, 0, (B (sA p + 1) - 48), (B (sA p + 3) - 48)) := by
        rw [(k7 (sB p) (by omega)).1]
        exact updN_s
      have mid : ∀ s3, rdf s s3 → RC s3 R1.2 → rdf s (uE (uF s3 70 3 (nI (sA R1.2 + 1))) 72 (sB p) (nI (sB R1.2))) ∧ RC (uE (uF s3 70 3 (nI (sA R1.2 + 1))) 72 (sB p) (nI (sB R1.2))) (pMid R1.2 (sB p) 2 (B (sA p + 1) - 48) (B (sA p + 3) - 48)) := fun s3 F3 C3 => ⟨(F3.uF (by omega)).uE (by omega), RC_mid C3 (by omega) (by omega) ht1 (by rw [qF_uE, qF_uFs]) (by rw [qF_uE, qF_uFk (by decide)]) (by rw [qE_uEc (by decide), qE_uF]) (by funext j; rw [qE_uE, qE_uE, qE_uF]) (by rw [qE_uEc (by decide), qE_uF])⟩
      have rb : ∀ s3, RC s3 R1.2 → qF (uF s3 70 3 (nI (sA R1.2 + 1))) 70 4 = nI (sB R1.2) := fun s3 C3 => by rw [qF_uFk (by decide)]; exact C3.2.1
      by_cases h3 : R2.1 = 0
      · rw [if_pos h3] at hk
        refine qW.blk rfl ?_
        refine qv_aload rfl ?_
        refine qv_iload rfl ?_
        refine qv_iconst (v := 1) rfl ?_
        refine qv_iaddN (q := 1) rfl rfl ?_
        refine qv_virt (ly_70.rcv _) sg_Reader_readPart rfl rfl (IH1 _ _ _ (by omega) TX CX (fun s3 F3 q3 q4 => ?_)) 
        refine qv_if_eqNf rfl (by omega) (by omega) (nx := 3) rfl ?_
        refine qW.blk rfl ?_
        refine qv_aload rfl ?_
        refine qv_iconst (v := 47) rfl ?_
        refine qv_virt (ly_70.rcv _) sg_Reader_readSign rfl rfl (w_sign_y hP (by omega) (c := 47) ((TX.fr hTB2 F3)) hTB hz q3 (by decide) h2 ?_) 
        refine qv_if_ne_t (by decide) (tgt := 5) rfl ?_
        refine qW.blk rfl ?_
        refine qv_aload rfl ?_
        refine qv_gr ly_70 ⟨rfl, rfl, rfl⟩ (by omega) ?_
        refine qv_iload rfl ?_
        refine qv_aload rfl ?_
        refine qv_gi ly_70 ⟨rfl, rfl, rfl⟩ (rb s3 (q4 (by omega))) ?_
        refine qv_is ly_72 rfl (by omega) (by decide) ?_
        refine qv_aload rfl ?_
        refine qv_iload rfl ?_
        refine qv_iconst (v := 1) rfl ?_
        refine qv_iaddN (q := 1) rfl rfl ?_
        refine qv_virt (ly_70.rcv _) sg_Reader_readPart rfl rfl (IH2 _ _ _ (by omega) (hT.fr hTB2 (mid s3 (FX.trans F3) (q4 (by omega))).1) (mid s3 (FX.trans F3) (q4 (by omega))).2 (fun s5 F5 q5 q6 => ?_)) 
        refine qv_if_eqNt rfl (by omega) (by omega) (tgt := 8) rfl ?_
        refine qW.blk rfl ?_
        refine qv_iconst (v := 0) rfl ?_
        refine qv_nil (nx := 9) rfl ?_
        refine qW.blk rfl ?_
        refine qv_iret (by first | exact bI_ret | rfl) ?_
        have := hk s5 ((mid s3 (FX.trans F3) (q4 (by omega))).1.trans F5) q5 q6
        rw [h3] at this
        exact this
      rw [if_neg h3] at hk
      by_cases h4 : isc B z 125 (sA R2.2)
      · rw [if_pos h4] at hk
        refine qW.blk rfl ?_
        refine qv_aload rfl ?_
        refine qv_iload rfl ?_
        refine qv_iconst (v := 1) rfl ?_
        refine qv_iaddN (q := 1) rfl rfl ?_
        refine qv_virt (ly_70.rcv _) sg_Reader_readPart rfl rfl (IH1 _ _ _ (by omega) TX CX (fun s3 F3 q3 q4 => ?_)) 
        refine qv_if_eqNf rfl (by omega) (by omega) (nx := 3) rfl ?_
        refine qW.blk rfl ?_
        refine qv_aload rfl ?_
        refine qv_iconst (v := 47) rfl ?_
        refine qv_virt (ly_70.rcv _) sg_Reader_readSign rfl rfl (w_sign_y hP (by omega) (c := 47) ((TX.fr hTB2 F3)) hTB hz q3 (by decide) h2 ?_) 
        refine qv_if_ne_t (by decide) (tgt := 5) rfl ?_
        refine qW.blk rfl ?_
        refine qv_aload rfl ?_
        refine qv_gr ly_70 ⟨rfl, rfl, rfl⟩ (by omega) ?_
        refine qv_iload rfl ?_
        refine qv_aload rfl ?_
        refine qv_gi ly_70 ⟨rfl, rfl, rfl⟩ (rb s3 (q4 (by omega))) ?_
        refine qv_is ly_72 rfl (by omega) (by decide) ?_
        refine qv_aload rfl ?_
        refine qv_iload rfl ?_
        refine qv_iconst (v := 1) rfl ?_
        refine qv_iaddN (q := 1) rfl rfl ?_
        refine qv_virt (ly_70.rcv _) sg_Reader_readPart rfl rfl (IH2 _ _ _ (by omega) (hT.fr hTB2 (mid s3 (FX.trans F3) (q4 (by omega))).1) (mid s3 (FX.trans F3) (q4 (by omega))).2 (fun s5 F5 q5 q6 => ?_)) 
        refine qv_if_eqNf rfl (by omega) (by omega) (nx := 6) rfl ?_
        refine qW.blk rfl ?_
        refine qv_aload rfl ?_
        refine qv_iconst (v := 125) rfl ?_
        refine qv_virt (ly_70.rcv _) sg_Reader_readSign rfl rfl (w_sign_y hP (by omega) (c := 125) (hT.fr hTB2 ((mid s3 (FX.trans F3) (q4 (by omega))).1.trans F5)) hTB hz q5 (by decide) h4 ?_) 
        refine qv_if_eq_f (by decide) (nx := 7) rfl ?_
        refine qW.blk rfl ?_
        refine qv_iconst (v := 1) rfl ?_
        refine qv_goto (tgt := 9) rfl ?_
        refine qW.blk rfl ?_
        refine qv_iret (by first | exact bI_ret | rfl) ?_
        have C5 := q6 (by omega)
        exact hk _ (((mid s3 (FX.trans F3) (q4 (by omega))).1.trans F5).uF (by omega)) qF_uFs (fun _ => ⟨qF_uFs, by rw [qF_uFk (by decide)]; exact C5.2.1, fun j hj => C5.2.2 j hj⟩)
      · rw [if_neg h4] at hk
        refine qW.blk rfl ?_
        refine qv_aload rfl ?_
        refine qv_iload rfl ?_
        refine qv_iconst (v := 1) rfl ?_
        refine qv_iaddN (q := 1) rfl rfl ?_
        refine qv_virt (ly_70.rcv _) sg_Reader_readPart rfl rfl (IH1 _ _ _ (by omega) TX CX (fun s3 F3 q3 q4 => ?_)) 
        refine qv_if_eqNf rfl (by omega) (by omega) (nx := 3) rfl ?_
        refine qW.blk rfl ?_
        refine qv_aload rfl ?_
        refine qv_iconst (v := 47) rfl ?_
        refine qv_virt (ly_70.rcv _) sg_Reader_readSign rfl rfl (w_sign_y hP (by omega) (c := 47) ((TX.fr hTB2 F3)) hTB hz q3 (by decide) h2 ?_) 
        refine qv_if_ne_t (by decide) (tgt := 5) rfl ?_
        refine qW.blk rfl ?_
        refine qv_aload rfl ?_
        refine qv_gr ly_70 ⟨rfl, rfl, rfl⟩ (by omega) ?_
        refine qv_iload rfl ?_
        refine qv_aload rfl ?_
        refine qv_gi ly_70 ⟨rfl, rfl, rfl⟩ (rb s3 (q4 (by omega))) ?_
        refine qv_is ly_72 rfl (by omega) (by decide) ?_
        refine qv_aload rfl ?_
        refine qv_iload rfl ?_
        refine qv_iconst (v := 1) rfl ?_
        refine qv_iaddN (q := 1) rfl rfl ?_
        refine qv_virt (ly_70.rcv _) sg_Reader_readPart rfl rfl (IH2 _ _ _ (by omega) (hT.fr hTB2 (mid s3 (FX.trans F3) (q4 (by omega))).1) (mid s3 (FX.trans F3) (q4 (by omega))).2 (fun s5 F5 q5 q6 => ?_)) 
        refine qv_if_eqNf rfl (by omega) (by omega) (nx := 6) rfl ?_
        refine qW.blk rfl ?_
        refine qv_aload rfl ?_
        refine qv_iconst (v := 125) rfl ?_
        refine qv_virt (ly_70.rcv _) sg_Reader_readSign rfl rfl (w_sign_n hP (by omega) (c := 125) (hT.fr hTB2 ((mid s3 (FX.trans F3) (q4 (by omega))).1.trans F5)) hTB hz q5 d3' (by decide) h4 ?_) 
        refine qv_if_eq_t (rfl) (tgt := 8) rfl ?_
        refine qW.blk rfl ?_
        refine qv_iconst (v := 0) rfl ?_
        refine qv_nil (nx := 9) rfl ?_
        refine qW.blk rfl ?_
        refine qv_iret (by first | exact bI_ret | rfl) ?_
        exact hk _ ((mid s3 (FX.trans F3) (q4 (by omega))).1.trans F5) q5 (fun q => absurd q (show ¬ (0 : Nat) = 1 by decide))
    · rw [if_neg h2] at hk
      refine qW.blk rfl ?_
      refine qv_aload rfl ?_
      refine qv_iload rfl ?_
      refine qv_iconst (v := 1) rfl ?_
      refine qv_iaddN (q := 1) rfl rfl ?_
      refine qv_virt (ly_70.rcv _) sg_Reader_readPart rfl rfl (IH1 _ _ _ (by omega) TX CX (fun s3 F3 q3 q4 => ?_)) 
      refine qv_if_eqNf rfl (by omega) (by omega) (nx := 3) rfl ?_
      refine qW.blk rfl ?_
      refine qv_aload rfl ?_
      refine qv_iconst (v := 47) rfl ?_
      refine qv_virt (ly_70.rcv _) sg_Reader_readSign rfl rfl (w_sign_n hP (by omega) (c := 47) (TX.fr hTB2 F3) hTB hz q3 a3' (by decide) h2 ?_) 
      refine qv_if_ne_f (fun q => q rfl) (nx := 4) rfl ?_
      refine qW.blk rfl ?_
      refine qv_iconst (v := 0) rfl ?_
      refine qv_iret (by first | exact bI_ret | rfl) ?_
      exact hk s3 (FX.trans F3) q3 (fun q => absurd q (show ¬ (0 : Nat) = 1 by decide))
  have F1 : rdf s (uF (uE (uE (uE s 71 (sB p) 8) 72 (sB p) 0) 73 (sB p) 0) 70 4 (nI (sB p + 1))) := ((((rdf.rf s).uE (by omega)).uE (by omega)).uE (by omega)).uF (by omega)
  have F2 : rdf s (uF (uF (uE (uE (uE s 71 (sB p) 8) 72 (sB p) 0) 73 (sB p) 0) 70 4 (nI (sB p + 1))) 70 3 (nI (sA p + 1))) := F1.uF (by omega)
  refine qW.blk rfl ?_
  refine qv_aload rfl ?_
  refine qv_iconst (v := 8) rfl ?_
  refine qv_virt (ly_70.rcv _) sg_Reader_addNode rfl rfl (w_addNode hP (by omega) 8 hC.2.1 (by omega) ?_) 
  refine qv_istore (L' := [_, _, _]) rfl ?_
  refine qv_aload rfl ?_
  refine qv_iconst (v := 123) rfl ?_
  refine qv_virt (ly_70.rcv _) sg_Reader_readSign rfl rfl (w_sign_y hP (by omega) (c := 123) (hT.fr hTB2 F1) hTB hz (by rw [qF_uFk (by decide)]; exact hC.1) (by decide) c0 ?_) 
  refine qv_if_eq_f (by decide) (nx := 1) rfl ?_
  refine qW.blk rfl ?_
  refine qv_aload rfl ?_
  refine qv_iload rfl ?_
  refine qv_virt (ly_70.rcv _) sg_Reader_readPair rfl rfl (w_pair_y hP (by omega) (a := sA p + 1) (hT.fr hTB2 F2) hTB hTB2 hz hn (by omega) qF_uFs c1 c2 c3 c4 (fun s3 F3 e1 e2 e3 e4 e5 => ?_)) 
  refine qv_if_eq_f (by decide) (nx := 2) rfl ?_
  refine beg _ (F2.trans F3) ⟨e2, ?_, fun j hj => ?_⟩
  · rw [e1 4 (by decide), qF_uFk (by decide), qF_uFs]; rfl
  · have hj' : j < sB p + 1 := hj
    show qE s3 71 j = wcd (updN (sT p) (sB p) (2, 0, 0, (B (sA p + 1) - 48), (B (sA p + 3) - 48)) j) ∧ qE s3 72 j = nI (updN (sT p) (sB p) (2, 0, 0, (B (sA p + 1) - 48), (B (sA p + 3) - 48)) j).2.2.1 ∧ qE s3 73 j = pcd (updN (sT p) (sB p) (2, 0, 0, (B (sA p + 1) - 48), (B (sA p + 3) - 48)) j)
    rw [e3 j, e4, e5]
    by_cases e : j = sB p
    · rw [e, updN_s, if_pos rfl]
      refine ⟨?_, ?_, rfl⟩
      · rw [qE_uF, qE_uF, qE_uEc (by decide), qE_uEc (by decide), qE_uEs]; rfl
      · rw [qE_uF, qE_uF, qE_uEc (by decide), qE_uEs]; rfl
    · obtain ⟨u1, u2, u3⟩ := hC.2.2 j (by omega)
      rw [updN_n e, if_neg e]
      refine ⟨?_, ?_, ?_⟩
      · rw [qE_uF, qE_uF, qE_uEc (by decide), qE_uEc (by decide), qE_uEk e]; exact u1
      · rw [qE_uF, qE_uF, qE_uEc (by decide), qE_uEk e, qE_uEc (by decide)]; exact u2
      · rw [qE_uF, qE_uF, qE_uEk e, qE_uEc (by decide), qE_uEc (by decide)]; exact u3
theorem w_readPart (hP : pm_np PR) (hTB : qLY TB (0, 120, [])) (hTB2 : 123 ≤ TB) (hz : z ≤ 120) (hn : n ≤ 7) : ∀ r, RPc X PR TB z n B r := by
  have leaf : ∀ (r d dep : Nat) (s : QST) (p : PS) (Q : QPost), 5 ≤ d → RT s TB z n B → RC s p → sB p ≤ sA p → sA p ≤ z → ¬ isc B z 40 (sA p) → ¬ isc B z 123 (sA p) → (∀ s', rdf s s' → qF s' 70 3 = nI (sA (if isd B z n (sA p) then (1, pLeaf B p) else ((0, p) : Nat × PS)).2) → ((if isd B z n (sA p) then (1, pLeaf B p) else ((0, p) : Nat × PS)).1 = 1 → RC s' (if isd B z n (sA p) then (1, pLeaf B p) else ((0, p) : Nat × PS)).2) → Q (some (.int (nI (if isd B z n (sA p) then (1, pLeaf B p) else ((0, p) : Nat × PS)).1))) s') → qP X PR d 89 [.ref 70, .int (nI dep)] s Q := by
    intro r d dep s p Q hd hT hC hba haz h40 h123 hk
    obtain ⟨t1, t2, t3, t4⟩ := hT
    refine qP.of (L := [_, _, _]) (by omega) (hP _ rfl) ms_Reader_readPart rfl ?_
    show qW X PR (d - 1) (some .boolean) cd_Reader_readPart 0 _ _ _ _
    by_cases hz1 : sA p < z
    · have e40 := byt_eq (t4 _ hz1) (show 40 < 128 by decide)
      have e123 := byt_eq (t4 _ hz1) (show 123 < 128 by decide)
      by_cases hd1 : isd B z n (sA p)
      · rw [if_pos hd1] at hk
        have hb := hd1.2.2
        have hv : nI (B (sA p) - 48) = wcd (0, 0, 0, B (sA p) - 48, 0) := rfl
        have F1 : rdf s (uF s 70 3 (nI (sA p + 1))) := (rdf.rf s).uF (by omega)
        refine qW.blk rfl ?_
        refine qv_aload rfl ?_
        refine qv_gi ly_70 ⟨rfl, rfl, rfl⟩ (hC.1) ?_
        refine qv_aload rfl ?_
        refine qv_gi ly_70 ⟨rfl, rfl, rfl⟩ (t2) ?_
        refine qv_icmp_ltNt rfl rfl (by omega) (by omega) (by omega) (tgt := 2) rfl ?_
        refine qW.blk rfl ?_
        refine qv_aload rfl ?_
        refine qv_gx (t1 ) ?_
        refine qv_aload rfl ?_
        refine qv_gi ly_70 ⟨rfl, rfl, rfl⟩ (hC.1) ?_
        refine qv_ia hTB rfl (by omega) (by decide) (rfl) ?_
        refine qv_iconst (v := 40) rfl ?_
        refine qv_icmp_ne_t (fun q => h40 ⟨hz1, e40.mp q⟩) (tgt := 8) rfl ?_
        refine qW.blk rfl ?_
        refine qv_aload rfl ?_
        refine qv_gx (t1 ) ?_
        refine qv_aload rfl ?_
        refine qv_gi ly_70 ⟨rfl, rfl, rfl⟩ (hC.1) ?_
        refine qv_ia hTB rfl (by omega) (by decide) (rfl) ?_
        refine qv_iconst (v := 123) rfl ?_
        refine qv_icmp_ne_t (fun q => h123 ⟨hz1, e123.mp q⟩) (tgt := 14) rfl ?_
        refine qW.blk rfl ?_
        refine qv_aload rfl ?_
        refine qv_virt (ly_70.rcv _) sg_Reader_readEnd rfl rfl (w_rend_y hP (by omega) ⟨t1, t2, t3, t4⟩ hTB hz hn hC.1 hd1 ?_) 
        refine qv_istore (L' := [_, _, _]) rfl ?_
        refine qv_iload rfl ?_
        refine qv_if_ge_t (nI_pos' (by omega)) (tgt := 16) rfl ?_
        refine qW.blk rfl ?_
        refine qv_aload rfl ?_
        refine qv_iload rfl ?_
        refine qv_virt (ly_70.rcv _) sg_Reader_addNode rfl rfl (w_addNode hP (by omega) (nI (B (sA p) - 48)) hC.2.1 (by omega) ?_) 
        refine qv_pop rfl ?_
        refine qv_iconst (v := 1) rfl ?_
        refine qv_iret (by first | exact bI_ret | rfl) ?_
        have CA := RC_add (p := p) (kd := 0) (x := B (sA p) - 48) (y := 0) (v := nI (B (sA p) - 48)) (len := 1) (s2 := uF (uE (uE (uE (uF s 70 3 (nI (sA p + 1))) 71 (sB p) (nI (B (sA p) - 48))) 72 (sB p) 0) 73 (sB p) 0) 70 4 (nI (sB p + 1))) hC hv rfl (fun k hk3 => by
          by_cases k4 : k = 4
          · subst k4; rw [qF_uFs, qF_uFs]
          · rw [qF_uFk k4, qF_uFk k4, qF_uE, qF_uE, qF_uE, qF_uFk hk3]; rfl) (by rw [qF_uFk (by decide), qF_uE, qF_uE, qF_uE, qF_uFs]) (fun c _ _ => rfl)
        exact hk _ ((((F1.uE (by omega)).uE (by omega)).uE (by omega)).uF (by omega)) CA.1 (fun _ => CA)
      · rw [if_neg hd1] at hk
        refine qW.blk rfl ?_
        refine qv_aload rfl ?_
        refine qv_gi ly_70 ⟨rfl, rfl, rfl⟩ (hC.1) ?_
        refine qv_aload rfl ?_
        refine qv_gi ly_70 ⟨rfl, rfl, rfl⟩ (t2) ?_
        refine qv_icmp_ltNt rfl rfl (by omega) (by omega) (by omega) (tgt := 2) rfl ?_
        refine qW.blk rfl ?_
        refine qv_aload rfl ?_
        refine qv_gx (t1 ) ?_
        refine qv_aload rfl ?_
        refine qv_gi ly_70 ⟨rfl, rfl, rfl⟩ (hC.1) ?_
        refine qv_ia hTB rfl (by omega) (by decide) (rfl) ?_
        refine qv_iconst (v := 40) rfl ?_
        refine qv_icmp_ne_t (fun q => h40 ⟨hz1, e40.mp q⟩) (tgt := 8) rfl ?_
        refine qW.blk rfl ?_
        refine qv_aload rfl ?_
        refine qv_gx (t1 ) ?_
        refine qv_aload rfl ?_
        refine qv_gi ly_70 ⟨rfl, rfl, rfl⟩ (hC.1) ?_
        refine qv_ia hTB rfl (by omega) (by decide) (rfl) ?_
        refine qv_iconst (v := 123) rfl ?_
        refine qv_icmp_ne_t (fun q => h123 ⟨hz1, e123.mp q⟩) (tgt := 14) rfl ?_
        refine qW.blk rfl ?_
        refine qv_aload rfl ?_
        refine qv_virt (ly_70.rcv _) sg_Reader_readEnd rfl rfl (w_rend_n hP (by omega) ⟨t1, t2, t3, t4⟩ hTB hz hn hC.1 haz hd1 ?_) 
        refine qv_istore (L' := [_, _, _]) rfl ?_
        refine qv_iload rfl ?_
        refine qv_if_ge_f (by decide) (nx := 15) rfl ?_
        refine qW.blk rfl ?_
        refine qv_iconst (v := 0) rfl ?_
        refine qv_iret (by first | exact bI_ret | rfl) ?_
        exact hk s (rdf.rf s) hC.1 (fun q => absurd q (show ¬ (0 : Nat) = 1 by decide))
    · rw [if_neg (fun q => hz1 q.1)] at hk
      refine qW.blk rfl ?_
      refine qv_aload rfl ?_
      refine qv_gi ly_70 ⟨rfl, rfl, rfl⟩ (hC.1) ?_
      refine qv_aload rfl ?_
      refine qv_gi ly_70 ⟨rfl, rfl, rfl⟩ (t2) ?_
      refine qv_icmp_ltNf rfl rfl (by omega) (by omega) (by omega) (nx := 1) rfl ?_
      refine qW.blk rfl ?_
      refine qv_iconst (v := 0) rfl ?_
      refine qv_iret (by first | exact bI_ret | rfl) ?_
      exact hk s (rdf.rf s) hC.1 (fun q => absurd q (show ¬ (0 : Nat) = 1 by decide))
  intro r
  induction r with
  | zero =>
    intro d dep s p Q hd hdep hT hC hba haz hk
    have hT' := hT
    obtain ⟨t1, t2, t3, t4⟩ := hT
    have dep6 : dep = 6 := by omega
    subst dep6
    by_cases h1 : isc B z 40 (sA p)
    · have hz1 := h1.1
      have e40 := (byt_eq (t4 _ hz1) (show 40 < 128 by decide)).mpr h1.2
      have e0 : pp B z n 0 p = (0, p) := if_neg (fun q => by have := q.2.1; have := h1.2; omega)
      rw [e0] at hk
      refine qP.of (L := [_, _, _]) (by omega) (hP _ rfl) ms_Reader_readPart rfl ?_
      show qW X PR (d - 1) (some .boolean) cd_Reader_readPart 0 _ _ _ _
      refine qW.blk rfl ?_
      refine qv_aload rfl ?_
      refine qv_gi ly_70 ⟨rfl, rfl, rfl⟩ (hC.1) ?_
      refine qv_aload rfl ?_
      refine qv_gi ly_70 ⟨rfl, rfl, rfl⟩ (t2) ?_
      refine qv_icmp_ltNt rfl rfl (by omega) (by omega) (by omega) (tgt := 2) rfl ?_
      refine qW.blk rfl ?_
      refine qv_aload rfl ?_
      refine qv_gx (t1 ) ?_
      refine qv_aload rfl ?_
      refine qv_gi ly_70 ⟨rfl, rfl, rfl⟩ (hC.1) ?_
      refine qv_ia hTB rfl (by omega) (by decide) (e40) ?_
      refine qv_iconst (v := 40) rfl ?_
      refine qv_icmp_neNf (q := 40) rfl rfl (by omega) (by omega) (by omega) (nx := 3) rfl ?_
      refine qW.blk rfl ?_
      refine qv_iload rfl ?_
      refine qv_iconst (v := 6) rfl ?_
      refine qv_icmp_geNt (q := 6) rfl rfl (by omega) (by omega) (by omega) (tgt := 6) rfl ?_
      refine qW.blk rfl ?_
      refine qv_iconst (v := 0) rfl ?_
      refine qv_nil (nx := 7) rfl ?_
      refine qW.blk rfl ?_
      refine qv_iret (by first | exact bI_ret | rfl) ?_
      exact hk s (rdf.rf s) hC.1 (fun q => absurd q (show ¬ (0 : Nat) = 1 by decide))
    by_cases h2 : isc B z 123 (sA p)
    · have hz1 := h2.1
      have e40 := byt_eq (t4 _ hz1) (show 40 < 128 by decide)
      have e123 := (byt_eq (t4 _ hz1) (show 123 < 128 by decide)).mpr h2.2
      have e0 : pp B z n 0 p = (0, p) := if_neg (fun q => by have := q.2.2; have := h2.2; omega)
      rw [e0] at hk
      refine qP.of (L := [_, _, _]) (by omega) (hP _ rfl) ms_Reader_readPart rfl ?_
      show qW X PR (d - 1) (some .boolean) cd_Reader_readPart 0 _ _ _ _
      refine qW.blk rfl ?_
      refine qv_aload rfl ?_
      refine qv_gi ly_70 ⟨rfl, rfl, rfl⟩ (hC.1) ?_
      refine qv_aload rfl ?_
      refine qv_gi ly_70 ⟨rfl, rfl, rfl⟩ (t2) ?_
      refine qv_icmp_ltNt rfl rfl (by omega) (by omega) (by omega) (tgt := 2) rfl ?_
      refine qW.blk rfl ?_
      refine qv_aload rfl ?_
      refine qv_gx (t1 ) ?_
      refine qv_aload rfl ?_
      refine qv_gi ly_70 ⟨rfl, rfl, rfl⟩ (hC.1) ?_
      refine qv_ia hTB rfl (by omega) (by decide) (rfl) ?_
      refine qv_iconst (v := 40) rfl ?_
      refine qv_icmp_ne_t (fun q => h1 ⟨hz1, e40.mp q⟩) (tgt := 8) rfl ?_
      refine qW.blk rfl ?_
      refine qv_aload rfl ?_
      refine qv_gx (t1 ) ?_
      refine qv_aload rfl ?_
      refine qv_gi ly_70 ⟨rfl, rfl, rfl⟩ (hC.1) ?_
      refine qv_ia hTB rfl (by omega) (by decide) (e123) ?_
      refine qv_iconst (v := 123) rfl ?_
      refine qv_icmp_neNf (q := 123) rfl rfl (by omega) (by omega) (by omega) (nx := 9) rfl ?_
      refine qW.blk rfl ?_
      refine qv_iload rfl ?_
      refine qv_iconst (v := 6) rfl ?_
      refine qv_icmp_geNt (q := 6) rfl rfl (by omega) (by omega) (by omega) (tgt := 12) rfl ?_
      refine qW.blk rfl ?_
      refine qv_iconst (v := 0) rfl ?_
      refine qv_nil (nx := 13) rfl ?_
      refine qW.blk rfl ?_
      refine qv_iret (by first | exact bI_ret | rfl) ?_
      exact hk s (rdf.rf s) hC.1 (fun q => absurd q (show ¬ (0 : Nat) = 1 by decide))
    exact leaf 0 d 6 s p Q (by omega) hT' hC hba haz h1 h2 hk
  | succ r ih =>
    intro d dep s p Q hd hdep hT hC hba haz hk
    have hT' := hT
    obtain ⟨t1, t2, t3, t4⟩ := hT
    by_cases h1 : isc B z 40 (sA p)
    · have hz1 := h1.1
      have e40 := (byt_eq (t4 _ hz1) (show 40 < 128 by decide)).mpr h1.2
      have e0 : pp B z n (r + 1) p = pPair (pp B z n r) B z 1 (sB p) (sQ p) 0 118 41 (pOpen p 1 1 (sQ p) 0) := if_pos h1
      have g := (pgood_pair (B := B) (z := z) (kd := 1) (x := sQ p) (y := 0) (sep := 118) (cl := 41) (p := p) (fun q => pp_good (B := B) (z := z) (n := n) r q) (Nat.le_refl 1) h1.1).1
      rw [e0] at hk
      have wq := fun (d : Nat) (s1 : QST) (Q : QPost) hd (h2 : RT s1 TB z n B) (h3 : RC s1 p) => w_readQuestion (X := X) (PR := PR) hP ih hTB hTB2 hz hn (d := d) (dep := dep) (s := s1) (p := p) (Q := Q) hd hdep h2 h3 hba haz h1
      obtain ⟨R, hR⟩ : ∃ R, pPair (pp B z n r) B z 1 (sB p) (sQ p) 0 118 41 (pOpen p 1 1 (sQ p) 0) = R := ⟨_, rfl⟩
      rw [hR] at hk wq g
      refine qP.of (L := [_, _, _]) (by omega) (hP _ rfl) ms_Reader_readPart rfl ?_
      show qW X PR (d - 1) (some .boolean) cd_Reader_readPart 0 _ _ _ _
      by_cases hR0 : R.1 = 0
      · refine qW.blk rfl ?_
        refine qv_aload rfl ?_
        refine qv_gi ly_70 ⟨rfl, rfl, rfl⟩ (hC.1) ?_
        refine qv_aload rfl ?_
        refine qv_gi ly_70 ⟨rfl, rfl, rfl⟩ (t2) ?_
        refine qv_icmp_ltNt rfl rfl (by omega) (by omega) (by omega) (tgt := 2) rfl ?_
        refine qW.blk rfl ?_
        refine qv_aload rfl ?_
        refine qv_gx (t1 ) ?_
        refine qv_aload rfl ?_
        refine qv_gi ly_70 ⟨rfl, rfl, rfl⟩ (hC.1) ?_
        refine qv_ia hTB rfl (by omega) (by decide) (e40) ?_
        refine qv_iconst (v := 40) rfl ?_
        refine qv_icmp_neNf (q := 40) rfl rfl (by omega) (by omega) (by omega) (nx := 3) rfl ?_
        refine qW.blk rfl ?_
        refine qv_iload rfl ?_
        refine qv_iconst (v := 6) rfl ?_
        refine qv_icmp_geNf (q := 6) rfl rfl (by omega) (by omega) (by omega) (nx := 4) rfl ?_
        refine qW.blk rfl ?_
        refine qv_aload rfl ?_
        refine qv_iload rfl ?_
        refine qv_virt (ly_70.rcv _) sg_Reader_readQuestion rfl rfl (wq _ _ _ (by omega) hT' hC (fun s1 F1 q1 q2 => ?_)) 
        refine qv_if_eqNt rfl (by omega) (by omega) (tgt := 6) rfl ?_
        refine qW.blk rfl ?_
        refine qv_iconst (v := 0) rfl ?_
        refine qv_nil (nx := 7) rfl ?_
        refine qW.blk rfl ?_
        refine qv_iret (by first | exact bI_ret | rfl) ?_
        have := hk s1 F1 q1 q2
        rw [hR0] at this
        exact this
      · have hR1 : R.1 = 1 := by omega
        refine qW.blk rfl ?_
        refine qv_aload rfl ?_
        refine qv_gi ly_70 ⟨rfl, rfl, rfl⟩ (hC.1) ?_
        refine qv_aload rfl ?_
        refine qv_gi ly_70 ⟨rfl, rfl, rfl⟩ (t2) ?_
        refine qv_icmp_ltNt rfl rfl (by omega) (by omega) (by omega) (tgt := 2) rfl ?_
        refine qW.blk rfl ?_
        refine qv_aload rfl ?_
        refine qv_gx (t1 ) ?_
        refine qv_aload rfl ?_
        refine qv_gi ly_70 ⟨rfl, rfl, rfl⟩ (hC.1) ?_
        refine qv_ia hTB rfl (by omega) (by decide) (e40) ?_
        refine qv_iconst (v := 40) rfl ?_
        refine qv_icmp_neNf (q := 40) rfl rfl (by omega) (by omega) (by omega) (nx := 3) rfl ?_
        refine qW.blk rfl ?_
        refine qv_iload rfl ?_
        refine qv_iconst (v := 6) rfl ?_
        refine qv_icmp_geNf (q := 6) rfl rfl (by omega) (by omega) (by omega) (nx := 4) rfl ?_
        refine qW.blk rfl ?_
        refine qv_aload rfl ?_
        refine qv_iload rfl ?_
        refine qv_virt (ly_70.rcv _) sg_Reader_readQuestion rfl rfl (wq _ _ _ (by omega) hT' hC (fun s1 F1 q1 q2 => ?_)) 
        refine qv_if_eqNf rfl (by omega) (by omega) (nx := 5) rfl ?_
        refine qW.blk rfl ?_
        refine qv_iconst (v := 1) rfl ?_
        refine qv_goto (tgt := 7) rfl ?_
        refine qW.blk rfl ?_
        refine qv_iret (by first | exact bI_ret | rfl) ?_
        have := hk s1 F1 q1 q2
        rw [hR1] at this
        exact this
    by_cases h2 : isc B z 123 (sA p)
    · have hz1 := h2.1
      have e40 := byt_eq (t4 _ hz1) (show 40 < 128 by decide)
      have e123 := (byt_eq (t4 _ hz1) (show 123 < 128 by decide)).mpr h2.2
      have run : ∀ (R : Nat × PS), R.1 ≤ 1 → (∀ s', rdf s s' → qF s' 70 3 = nI (sA R.2) → (R.1 = 1 → RC s' R.2) → Q (some (.int (nI R.1))) s') → (∀ (d : Nat) (Q : QPost), 2 * r + 6 ≤ d → (∀ s', rdf s s' → qF s' 70 3 = nI (sA R.2) → (R.1 = 1 → RC s' R.2) → Q (some (.int (nI R.1))) s') → qP X PR d 93 [.ref 70, .int (nI dep)] s Q) → qP X PR d 89 [.ref 70, .int (nI dep)] s Q := by
        intro R hR hk wq
        refine qP.of (L := [_, _, _]) (by omega) (hP _ rfl) ms_Reader_readPart rfl ?_
        show qW X PR (d - 1) (some .boolean) cd_Reader_readPart 0 _ _ _ _
        by_cases hR0 : R.1 = 0
        · refine qW.blk rfl ?_
          refine qv_aload rfl ?_
          refine qv_gi ly_70 ⟨rfl, rfl, rfl⟩ (hC.1) ?_
          refine qv_aload rfl ?_
          refine qv_gi ly_70 ⟨rfl, rfl, rfl⟩ (t2) ?_
          refine qv_icmp_ltNt rfl rfl (by omega) (by omega) (by omega) (tgt := 2) rfl ?_
          refine qW.blk rfl ?_
          refine qv_aload rfl ?_
          refine qv_gx (t1 ) ?_
          refine qv_aload rfl ?_
          refine qv_gi ly_70 ⟨rfl, rfl, rfl⟩ (hC.1) ?_
          refine qv_ia hTB rfl (by omega) (by decide) (rfl) ?_
          refine qv_iconst (v := 40) rfl ?_
          refine qv_icmp_ne_t (fun q => h1 ⟨hz1, e40.mp q⟩) (tgt := 8) rfl ?_
          refine qW.blk rfl ?_
          refine qv_aload rfl ?_
          refine qv_gx (t1 ) ?_
          refine qv_aload rfl ?_
          refine qv_gi ly_70 ⟨rfl, rfl, rfl⟩ (hC.1) ?_
          refine qv_ia hTB rfl (by omega) (by decide) (e123) ?_
          refine qv_iconst (v := 123) rfl ?_
          refine qv_icmp_neNf (q := 123) rfl rfl (by omega) (by omega) (by omega) (nx := 9) rfl ?_
          refine qW.blk rfl ?_
          refine qv_iload rfl ?_
          refine qv_iconst (v := 6) rfl ?_
          refine qv_icmp_geNf (q := 6) rfl rfl (by omega) (by omega) (by omega) (nx := 10) rfl ?_
          refine qW.blk rfl ?_
          refine qv_aload rfl ?_
          refine qv_iload rfl ?_
          refine qv_virt (ly_70.rcv _) sg_Reader_readChoice rfl rfl (wq _ _ (by omega) (fun s1 F1 q1 q2 => ?_)) 
          refine qv_if_eqNt rfl (by omega) (by omega) (tgt := 12) rfl ?_
          refine qW.blk rfl ?_
          refine qv_iconst (v := 0) rfl ?_
          refine qv_nil (nx := 13) rfl ?_
          refine qW.blk rfl ?_
          refine qv_iret (by first | exact bI_ret | rfl) ?_
          have := hk s1 F1 q1 q2
          rw [hR0] at this
          exact this
        · have hR1 : R.1 = 1 := by omega
          refine qW.blk rfl ?_
          refine qv_aload rfl ?_
          refine qv_gi ly_70 ⟨rfl, rfl, rfl⟩ (hC.1) ?_
          refine qv_aload rfl ?_
          refine qv_gi ly_70 ⟨rfl, rfl, rfl⟩ (t2) ?_
          refine qv_icmp_ltNt rfl rfl (by omega) (by omega) (by omega) (tgt := 2) rfl ?_
          refine qW.blk rfl ?_
          refine qv_aload rfl ?_
          refine qv_gx (t1 ) ?_
          refine qv_aload rfl ?_
          refine qv_gi ly_70 ⟨rfl, rfl, rfl⟩ (hC.1) ?_
          refine qv_ia hTB rfl (by omega) (by decide) (rfl) ?_
          refine qv_iconst (v := 40) rfl ?_
          refine qv_icmp_ne_t (fun q => h1 ⟨hz1, e40.mp q⟩) (tgt := 8) rfl ?_
          refine qW.blk rfl ?_
          refine qv_aload rfl ?_
          refine qv_gx (t1 ) ?_
          refine qv_aload rfl ?_
          refine qv_gi ly_70 ⟨rfl, rfl, rfl⟩ (hC.1) ?_
          refine qv_ia hTB rfl (by omega) (by decide) (e123) ?_
          refine qv_iconst (v := 123) rfl ?_
          refine qv_icmp_neNf (q := 123) rfl rfl (by omega) (by omega) (by omega) (nx := 9) rfl ?_
          refine qW.blk rfl ?_
          refine qv_iload rfl ?_
          refine qv_iconst (v := 6) rfl ?_
          refine qv_icmp_geNf (q := 6) rfl rfl (by omega) (by omega) (by omega) (nx := 10) rfl ?_
          refine qW.blk rfl ?_
          refine qv_aload rfl ?_
          refine qv_iload rfl ?_
          refine qv_virt (ly_70.rcv _) sg_Reader_readChoice rfl rfl (wq _ _ (by omega) (fun s1 F1 q1 q2 => ?_)) 
          refine qv_if_eqNf rfl (by omega) (by omega) (nx := 11) rfl ?_
          refine qW.blk rfl ?_
          refine qv_iconst (v := 1) rfl ?_
          refine qv_goto (tgt := 13) rfl ?_
          refine qW.blk rfl ?_
          refine qv_iret (by first | exact bI_ret | rfl) ?_
          have := hk s1 F1 q1 q2
          rw [hR1] at this
          exact this
      -- a choice that goes wrong ahead of its parts
      have bad : ∀ (f : Nat) (d : Nat) (Q : QPost), 2 * r + 6 ≤ d → ((¬ isd B z n (sA p + 1) ∧ f = sA p + 1) ∨ (isd B z n (sA p + 1) ∧ ¬ isc B z 62 (sA p + 1 + 1) ∧ f = sA p + 1 + 1) ∨ (isd B z n (sA p + 1) ∧ isc B z 62 (sA p + 1 + 1) ∧ ¬ isd B z n (sA p + 1 + 2) ∧ f = sA p + 1 + 2) ∨ (isd B z n (sA p + 1) ∧ isc B z 62 (sA p + 1 + 1) ∧ isd B z n (sA p + 1 + 2) ∧ ¬ isc B z 58 (sA p + 1 + 3) ∧ f = sA p + 1 + 3)) → (∀ s', rdf s s' → qF s' 70 3 = nI f → Q (some (.int 0)) s') → qP X PR d 93 [.ref 70, .int (nI dep)] s Q := by
        intro f d Q hd hf hk
        have F1 : rdf s (uF (uE (uE (uE s 71 (sB p) 8) 72 (sB p) 0) 73 (sB p) 0) 70 4 (nI (sB p + 1))) := ((((rdf.rf s).uE (by omega)).uE (by omega)).uE (by omega)).uF (by omega)
        have F2 : rdf s (uF (uF (uE (uE (uE s 71 (sB p) 8) 72 (sB p) 0) 73 (sB p) 0) 70 4 (nI (sB p + 1))) 70 3 (nI (sA p + 1))) := F1.uF (by omega)
        refine qP.of (L := [_, _, _]) (by omega) (hP _ rfl) ms_Reader_readChoice rfl ?_
        show qW X PR (d - 1) (some .boolean) cd_Reader_readChoice 0 _ _ _ _
        refine qW.blk rfl ?_
        refine qv_aload rfl ?_
        refine qv_iconst (v := 8) rfl ?_
        refine qv_virt (ly_70.rcv _) sg_Reader_addNode rfl rfl (w_addNode hP (by omega) 8 hC.2.1 (by omega) ?_) 
        refine qv_istore (L' := [_, _, _]) rfl ?_
        refine qv_aload rfl ?_
        refine qv_iconst (v := 123) rfl ?_
        refine qv_virt (ly_70.rcv _) sg_Reader_readSign rfl rfl (w_sign_y hP (by omega) (c := 123) (hT'.fr hTB2 F1) hTB hz (by rw [qF_uFk (by decide)]; exact hC.1) (by decide) h2 ?_) 
        refine qv_if_eq_f (by decide) (nx := 1) rfl ?_
        refine qW.blk rfl ?_
        refine qv_aload rfl ?_
        refine qv_iload rfl ?_
        refine qv_virt (ly_70.rcv _) sg_Reader_readPair rfl rfl (w_pair_n hP (by omega) (a := sA p + 1) (f := f) (hT'.fr hTB2 F2) hTB hTB2 hz hn (by omega) qF_uFs (by omega) hf (fun s3 F3 e1 => ?_)) 
        refine qv_if_eq_t (rfl) (tgt := 4) rfl ?_
        refine qW.blk rfl ?_
        refine qv_iconst (v := 0) rfl ?_
        refine qv_iret (by first | exact bI_ret | rfl) ?_
        exact hk s3 (F2.trans F3) e1
      unfold pp at hk
      rw [if_neg h1, if_pos h2] at hk
      by_cases c1 : isd B z n (sA p + 1)
      · rw [if_pos c1] at hk
        by_cases c2 : isc B z 62 (sA p + 2)
        · rw [if_pos c2] at hk
          by_cases c3 : isd B z n (sA p + 3)
          · rw [if_pos c3] at hk
            by_cases c4 : isc B z 58 (sA p + 4)
            · rw [if_pos c4] at hk
              have g := (pgood_pair (B := B) (z := z) (kd := 2) (x := B (sA p + 1) - 48) (y := B (sA p + 3) - 48) (len := 5) (sep := 47) (cl := 125) (p := p) (fun q => pp_good (B := B) (z := z) (n := n) r q) (by decide) (by have := c4.1; omega)).1
              exact run _ g hk (fun d Q hd hq => w_readChoice hP ih hTB hTB2 hz hn hd hdep hT' hC hba haz h2 c1 c2 c3 c4 hq)
            · rw [if_neg c4] at hk
              exact run (0, pAt p (sA p + 4)) (Nat.zero_le _) hk (fun d Q hd hq => bad (sA p + 4) d Q hd (Or.inr (Or.inr (Or.inr ⟨c1, c2, c3, c4, rfl⟩))) (fun s' F q => hq s' F q (fun q => absurd q (show ¬ (0 : Nat) = 1 by decide))))
          · rw [if_neg c3] at hk
            exact run (0, pAt p (sA p + 3)) (Nat.zero_le _) hk (fun d Q hd hq => bad (sA p + 3) d Q hd (Or.inr (Or.inr (Or.inl ⟨c1, c2, c3, rfl⟩))) (fun s' F q => hq s' F q (fun q => absurd q (show ¬ (0 : Nat) = 1 by decide))))
        · rw [if_neg c2] at hk
          exact run (0, pAt p (sA p + 2)) (Nat.zero_le _) hk (fun d Q hd hq => bad (sA p + 2) d Q hd (Or.inr (Or.inl ⟨c1, c2, rfl⟩)) (fun s' F q => hq s' F q (fun q => absurd q (show ¬ (0 : Nat) = 1 by decide))))
      · rw [if_neg c1] at hk
        exact run (0, pAt p (sA p + 1)) (Nat.zero_le _) hk (fun d Q hd hq => bad (sA p + 1) d Q hd (Or.inl ⟨c1, rfl⟩) (fun s' F q => hq s' F q (fun q => absurd q (show ¬ (0 : Nat) = 1 by decide))))
    unfold pp at hk
    rw [if_neg h1, if_neg h2] at hk
    exact leaf (r + 1) d dep s p Q (by omega) hT' hC hba haz h1 h2 hk
end
