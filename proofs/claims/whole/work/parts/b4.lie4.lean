/-! bestLie is alike -/
theorem plw_cg {l l' : Nat → Nat} {x : Nat} : ∀ k, (∀ j, j < k → l j = l' j) → plw l x k = plw l' x k := by
  intro k
  induction k with
  | zero => intro _; rfl
  | succ k ih =>
    intro h
    unfold plw
    rw [h k (Nat.lt_succ_self k), ih (fun j hj => h j (by omega))]
theorem blv_cg {C : Nat → Nat} {m : Nat} {D : TD} {r r' : Nat → Nat} (h : ∀ j, j < C 0 → r j = r' j) : blv C m D r = blv C m D r' := by
  unfold blv
  have : (fun x => nI (plw r x (C 0))) = (fun x => nI (plw r' x (C 0))) := by
    funext x; rw [plw_cg (C 0) h]
  rw [this]
theorem dig_cg {l l' : Nat → Nat} : ∀ i, (∀ j, j < i → l j = l' j) → dig l i = dig l' i := by
  intro i
  induction i with
  | zero => intro _; rfl
  | succ i ih =>
    intro h
    show dig l i + l i * 8 ^ i = dig l' i + l' i * 8 ^ i
    rw [ih (fun j hj => h j (by omega)), h i (Nat.lt_succ_self i)]
section
variable {X : pm_X} {PR : pm_P} {s : QST} {Q : QPost}
theorem w_lieDigits (hP : pm_np PR) {d : Nat} (hd : 4 ≤ d) {C : Nat → Nat} {D : TD} {z zo : Nat} {e eo : Nat → Nat} (h : lset C D z zo e eo) {T k0 : Nat} {R : List va_E} {w sc pr : Nat → Int32} (hR : qR s = R) (hT : qTR R T D.2.2.2.1 w sc pr (nI D.2.2.2.2.1) (nI D.2.2.2.2.2.1) (nI D.2.2.2.2.2.2)) (h0 : qF s 9 0 = nI (C 0)) (hk0 : k0 < fct z) (h118 : ∀ j, j < z → qE s 118 j = nI (e (prow z k0 j))) (hk : ∀ s', qfr 119 120 s s' → Q (some (.int (nI (dig (mgk z zo e eo k0) (C 0))))) s') : qP X PR d 85 [.ref 115, .ref T] s Q := by
  obtain ⟨hD, hC, hs, hz, hzo, he, heo⟩ := h
  have hn := hC.2.1
  have hs7 := hD.2.2.2.2.2.2.1
  have ha7 := hD.2.2.2.2.2.2.2.1
  have hMl : mtt D (C 0) < 128 := Nat.lt_of_lt_of_le mtt_lt (two_lt (by omega))
  obtain ⟨c1, c2, c3, c4⟩ := sets_chk (C 0) (by omega) (mtt D (C 0)) mtt_lt
  have hz7 : z ≤ 7 := by have := hs.1; omega
  have hro := (prow_ok hz7 hk0).1
  have hok := mgv_ok hs hro
  have hzz := hs.1
  have hpc : nI (pc (mtt D (C 0))) = nI z := by rw [c2, hz]
  have wsp : ∀ (d : Nat) (s : QST) (Q : QPost), 1 ≤ d → (∀ s', qfr 119 119 s s' → (∀ j, j < zo → qE s' 119 j = nI (eo j)) → Q (some (.int (nI zo))) s') → qP X PR d 62 [.int (nI (2 ^ C 0 - 1) &&& (nI (mtt D (C 0)) ^^^ -1)), .ref 119] s Q := by
    intro d s Q hd hq
    rw [c4]
    refine w_spread hP hd ly_119 c3 (fun s' F g => ?_)
    rw [← hzo] at g ⊢
    exact hq s' F (fun j hj => by rw [g j hj, heo j])
  refine qP.of (L := [_, _, _, _, _, _, _, _]) (by omega) (hP _ rfl) ms_Plots_lieDigits rfl ?_
  show qW X PR (d - 1) (some .int) cd_Plots_lieDigits 0 _ _ _ _
  have loop : ∀ (c i : Nat) (s1 : QST) (L7 : Option Value), i + c = C 0 → qfr 119 120 s s1 → (∀ j, j < zo → qE s1 119 j = nI (eo j)) → (∀ j, j < i → qE s1 120 j = nI (mgk z zo e eo k0 j)) → qW X PR (d - 1) (some .int) cd_Plots_lieDigits 1 [some (.ref (115)), some (.ref (T)), some (.int (nI z)), some (.int (nI zo)), some (.int (nI (mga z zo (fun j => e (prow z k0 j)) eo i))), some (.int (nI (i - mga z zo (fun j => e (prow z k0 j)) eo i))), some (.int (nI i)), L7] [] s1 Q := by
    intro c
    induction c with
    | zero =>
      intro i s1 L7 hi F1 g1 g2
      have ei : i = C 0 := by omega
      rw [ei]
      have h0' : qF s1 9 0 = nI (C 0) := (F1.f (by omega)).trans h0
      refine qW.blk rfl ?_
      refine qv_iload rfl ?_
      refine qv_aload rfl ?_
      refine qv_gr ly_115 ⟨rfl, rfl, rfl⟩ (by omega) ?_
      refine qv_gi ly_9 ⟨rfl, rfl, rfl⟩ (h0') ?_
      refine qv_icmp_geNt rfl rfl (by omega) (by omega) (by omega) (tgt := 11) rfl ?_
      refine qW.blk rfl ?_
      refine qv_aload rfl ?_
      refine qv_gr ly_115 ⟨rfl, rfl, rfl⟩ (by omega) ?_
      refine qv_aload rfl ?_
      refine qv_gr ly_115 ⟨rfl, rfl, rfl⟩ (by omega) ?_
      refine qv_gi ly_9 ⟨rfl, rfl, rfl⟩ (h0') ?_
      refine qv_static sg_Orders_digits rfl (w_digits hP (by omega) ly_120 hn (fun j hj => g2 j (by omega)) ?_) 
      refine qv_iret (rfl) ?_
      exact hk s1 F1
    | succ c ih =>
      intro i s1 L7 hi F1 g1 g2
      have h0' : qF s1 9 0 = nI (C 0) := (F1.f (by omega)).trans h0
      obtain ⟨m1, m2, m3⟩ := mga_in (z := z) (zo := zo) (L := fun j => e (prow z k0 j)) (eo := eo) i (by omega)
      have es := mga_s (z := z) (zo := zo) (L := fun j => e (prow z k0 j)) (eo := eo) (i := i)
      have g118 : ∀ j, j < z → qE s1 118 j = nI (e (prow z k0 j)) := fun j hj => (F1.e (by omega)).trans (h118 j hj)
      have stepA : lnx z zo (fun j => e (prow z k0 j)) eo (mga z zo (fun j => e (prow z k0 j)) eo i) (i - mga z zo (fun j => e (prow z k0 j)) eo i) → ∀ L7, qW X PR (d - 1) (some .int) cd_Plots_lieDigits 1 [some (.ref (115)), some (.ref (T)), some (.int (nI z)), some (.int (nI zo)), some (.int (nI (mga z zo (fun j => e (prow z k0 j)) eo i + 1))), some (.int (nI (i - mga z zo (fun j => e (prow z k0 j)) eo i))), some (.int (nI (i + 1))), L7] [] (uE s1 120 i (nI (e (prow z k0 (mga z zo (fun j => e (prow z k0 j)) eo i))))) Q := fun hl L7 => by
        rw [if_pos hl] at es
        have nx := ih (i + 1) (uE s1 120 i (nI (e (prow z k0 (mga z zo (fun j => e (prow z k0 j)) eo i))))) L7 (by omega) (F1.uE (by omega)) (fun j hj => by rw [qE_uEc (by omega)]; exact g1 j hj) (fun j hj => by
          by_cases ej : j = i
          · subst ej
            rw [qE_uEs]
            have : mgk z zo e eo k0 j = e (prow z k0 (mga z zo (fun j => e (prow z k0 j)) eo j)) := if_pos hl
            rw [this]
          · rw [qE_uEk ej]; exact g2 j (by omega))
        rw [es, show i + 1 - (mga z zo (fun j => e (prow z k0 j)) eo i + 1) = i - mga z zo (fun j => e (prow z k0 j)) eo i by omega] at nx
        exact nx
      have stepB : ¬ lnx z zo (fun j => e (prow z k0 j)) eo (mga z zo (fun j => e (prow z k0 j)) eo i) (i - mga z zo (fun j => e (prow z k0 j)) eo i) → ∀ L7, qW X PR (d - 1) (some .int) cd_Plots_lieDigits 1 [some (.ref (115)), some (.ref (T)), some (.int (nI z)), some (.int (nI zo)), some (.int (nI (mga z zo (fun j => e (prow z k0 j)) eo i))), some (.int (nI (i - mga z zo (fun j => e (prow z k0 j)) eo i + 1))), some (.int (nI (i + 1))), L7] [] (uE s1 120 i (nI (eo (i - mga z zo (fun j => e (prow z k0 j)) eo i)))) Q := fun hl L7 => by
        rw [if_neg hl] at es
        have es : mga z zo (fun j => e (prow z k0 j)) eo (i + 1) = mga z zo (fun j => e (prow z k0 j)) eo i := es
        have nx := ih (i + 1) (uE s1 120 i (nI (eo (i - mga z zo (fun j => e (prow z k0 j)) eo i)))) L7 (by omega) (F1.uE (by omega)) (fun j hj => by rw [qE_uEc (by omega)]; exact g1 j hj) (fun j hj => by
          by_cases ej : j = i
          · subst ej
            rw [qE_uEs]
            have : mgk z zo e eo k0 j = eo (j - mga z zo (fun j => e (prow z k0 j)) eo j) := if_neg hl
            rw [this]
          · rw [qE_uEk ej]; exact g2 j (by omega))
        rw [es, show i + 1 - mga z zo (fun j => e (prow z k0 j)) eo i = i - mga z zo (fun j => e (prow z k0 j)) eo i + 1 by omega] at nx
        exact nx
      obtain ⟨a, ha⟩ : ∃ a, mga z zo (fun j => e (prow z k0 j)) eo i = a := ⟨_, rfl⟩
      rw [ha] at stepA stepB m1 m2 m3 ⊢
      by_cases hb : zo ≤ i - a
      · have haz : a < z := by omega
        refine qW.blk rfl ?_
        refine qv_iload rfl ?_
        refine qv_aload rfl ?_
        refine qv_gr ly_115 ⟨rfl, rfl, rfl⟩ (by omega) ?_
        refine qv_gi ly_9 ⟨rfl, rfl, rfl⟩ (h0') ?_
        refine qv_icmp_geNf rfl rfl (by omega) (by omega) (by omega) (nx := 2) rfl ?_
        refine qW.blk rfl ?_
        refine qv_iload rfl ?_
        refine qv_iload rfl ?_
        refine qv_icmp_geNt rfl rfl (by omega) (by omega) (by omega) (tgt := 5) rfl ?_
        refine qW.blk rfl ?_
        refine qv_iconst (v := 1) rfl ?_
        refine qv_goto (tgt := 7) rfl ?_
        refine qW.blk rfl ?_
        refine qv_istore (L' := [_, _, _, _, _, _, _, _]) rfl ?_
        refine qv_iload rfl ?_
        refine qv_if_eq_f (by decide) (nx := 8) rfl ?_
        refine qW.blk rfl ?_
        refine qv_aload rfl ?_
        refine qv_gr ly_115 ⟨rfl, rfl, rfl⟩ (by omega) ?_
        refine qv_iload rfl ?_
        refine qv_aload rfl ?_
        refine qv_gr ly_115 ⟨rfl, rfl, rfl⟩ (by omega) ?_
        refine qv_iload rfl ?_
        refine qv_ia ly_118 rfl (by omega) (by decide) (g118 a haz) ?_
        refine qv_is ly_120 rfl (by omega) (by decide) ?_
        refine qv_iinc (L' := [_, _, _, _, _, _, _, _]) rfl (nI_succ _).symm rfl ?_
        refine qv_goto (tgt := 10) rfl ?_
        refine qW.blk rfl ?_
        refine qv_iinc (L' := [_, _, _, _, _, _, _, _]) rfl (nI_succ _).symm rfl ?_
        refine qv_goto (tgt := 1) rfl ?_
        exact stepA (Or.inl hb) _
      · by_cases haz : a < z
        · have b1 := hs.2.2.2.2.1 _ (hro.1 a haz)
          have b2 := hs.2.2.2.2.2.1 (i - a) (by omega)
          by_cases hc : e (prow z k0 a) < eo (i - a)
          · refine qW.blk rfl ?_
            refine qv_iload rfl ?_
            refine qv_aload rfl ?_
            refine qv_gr ly_115 ⟨rfl, rfl, rfl⟩ (by omega) ?_
            refine qv_gi ly_9 ⟨rfl, rfl, rfl⟩ (h0') ?_
            refine qv_icmp_geNf rfl rfl (by omega) (by omega) (by omega) (nx := 2) rfl ?_
            refine qW.blk rfl ?_
            refine qv_iload rfl ?_
            refine qv_iload rfl ?_
            refine qv_icmp_geNf rfl rfl (by omega) (by omega) (by omega) (nx := 3) rfl ?_
            refine qW.blk rfl ?_
            refine qv_iload rfl ?_
            refine qv_iload rfl ?_
            refine qv_icmp_geNf rfl rfl (by omega) (by omega) (by omega) (nx := 4) rfl ?_
            refine qW.blk rfl ?_
            refine qv_aload rfl ?_
            refine qv_gr ly_115 ⟨rfl, rfl, rfl⟩ (by omega) ?_
            refine qv_iload rfl ?_
            refine qv_ia ly_118 rfl (by omega) (by decide) (g118 a haz) ?_
            refine qv_aload rfl ?_
            refine qv_gr ly_115 ⟨rfl, rfl, rfl⟩ (by omega) ?_
            refine qv_iload rfl ?_
            refine qv_ia ly_119 rfl (by omega) (by decide) (g1 (i - a) (by omega)) ?_
            refine qv_icmp_geNf rfl rfl (by omega) (by omega) (by omega) (nx := 5) rfl ?_
            refine qW.blk rfl ?_
            refine qv_iconst (v := 1) rfl ?_
            refine qv_goto (tgt := 7) rfl ?_
            refine qW.blk rfl ?_
            refine qv_istore (L' := [_, _, _, _, _, _, _, _]) rfl ?_
            refine qv_iload rfl ?_
            refine qv_if_eq_f (by decide) (nx := 8) rfl ?_
            refine qW.blk rfl ?_
            refine qv_aload rfl ?_
            refine qv_gr ly_115 ⟨rfl, rfl, rfl⟩ (by omega) ?_
            refine qv_iload rfl ?_
            refine qv_aload rfl ?_
            refine qv_gr ly_115 ⟨rfl, rfl, rfl⟩ (by omega) ?_
            refine qv_iload rfl ?_
            refine qv_ia ly_118 rfl (by omega) (by decide) (g118 a haz) ?_
            refine qv_is ly_120 rfl (by omega) (by decide) ?_
            refine qv_iinc (L' := [_, _, _, _, _, _, _, _]) rfl (nI_succ _).symm rfl ?_
            refine qv_goto (tgt := 10) rfl ?_
            refine qW.blk rfl ?_
            refine qv_iinc (L' := [_, _, _, _, _, _, _, _]) rfl (nI_succ _).symm rfl ?_
            refine qv_goto (tgt := 1) rfl ?_
            exact stepA (Or.inr ⟨haz, hc⟩) _
          · refine qW.blk rfl ?_
            refine qv_iload rfl ?_
            refine qv_aload rfl ?_
            refine qv_gr ly_115 ⟨rfl, rfl, rfl⟩ (by omega) ?_
            refine qv_gi ly_9 ⟨rfl, rfl, rfl⟩ (h0') ?_
            refine qv_icmp_geNf rfl rfl (by omega) (by omega) (by omega) (nx := 2) rfl ?_
            refine qW.blk rfl ?_
            refine qv_iload rfl ?_
            refine qv_iload rfl ?_
            refine qv_icmp_geNf rfl rfl (by omega) (by omega) (by omega) (nx := 3) rfl ?_
            refine qW.blk rfl ?_
            refine qv_iload rfl ?_
            refine qv_iload rfl ?_
            refine qv_icmp_geNf rfl rfl (by omega) (by omega) (by omega) (nx := 4) rfl ?_
            refine qW.blk rfl ?_
            refine qv_aload rfl ?_
            refine qv_gr ly_115 ⟨rfl, rfl, rfl⟩ (by omega) ?_
            refine qv_iload rfl ?_
            refine qv_ia ly_118 rfl (by omega) (by decide) (g118 a haz) ?_
            refine qv_aload rfl ?_
            refine qv_gr ly_115 ⟨rfl, rfl, rfl⟩ (by omega) ?_
            refine qv_iload rfl ?_
            refine qv_ia ly_119 rfl (by omega) (by decide) (g1 (i - a) (by omega)) ?_
            refine qv_icmp_geNt rfl rfl (by omega) (by omega) (by omega) (tgt := 6) rfl ?_
            refine qW.blk rfl ?_
            refine qv_iconst (v := 0) rfl ?_
            refine qv_nil (nx := 7) rfl ?_
            refine qW.blk rfl ?_
            refine qv_istore (L' := [_, _, _, _, _, _, _, _]) rfl ?_
            refine qv_iload rfl ?_
            refine qv_if_eq_t (rfl) (tgt := 9) rfl ?_
            refine qW.blk rfl ?_
            refine qv_aload rfl ?_
            refine qv_gr ly_115 ⟨rfl, rfl, rfl⟩ (by omega) ?_
            refine qv_iload rfl ?_
            refine qv_aload rfl ?_
            refine qv_gr ly_115 ⟨rfl, rfl, rfl⟩ (by omega) ?_
            refine qv_iload rfl ?_
            refine qv_ia ly_119 rfl (by omega) (by decide) (g1 (i - a) (by omega)) ?_
            refine qv_is ly_120 rfl (by omega) (by decide) ?_
            refine qv_iinc (L' := [_, _, _, _, _, _, _, _]) rfl (nI_succ _).symm rfl ?_
            refine qv_nil (nx := 10) rfl ?_
            refine qW.blk rfl ?_
            refine qv_iinc (L' := [_, _, _, _, _, _, _, _]) rfl (nI_succ _).symm rfl ?_
            refine qv_goto (tgt := 1) rfl ?_
            exact stepB (fun q => q.elim hb (fun q => hc q.2)) _
        · refine qW.blk rfl ?_
          refine qv_iload rfl ?_
          refine qv_aload rfl ?_
          refine qv_gr ly_115 ⟨rfl, rfl, rfl⟩ (by omega) ?_
          refine qv_gi ly_9 ⟨rfl, rfl, rfl⟩ (h0') ?_
          refine qv_icmp_geNf rfl rfl (by omega) (by omega) (by omega) (nx := 2) rfl ?_
          refine qW.blk rfl ?_
          refine qv_iload rfl ?_
          refine qv_iload rfl ?_
          refine qv_icmp_geNf rfl rfl (by omega) (by omega) (by omega) (nx := 3) rfl ?_
          refine qW.blk rfl ?_
          refine qv_iload rfl ?_
          refine qv_iload rfl ?_
          refine qv_icmp_geNt rfl rfl (by omega) (by omega) (by omega) (tgt := 6) rfl ?_
          refine qW.blk rfl ?_
          refine qv_iconst (v := 0) rfl ?_
          refine qv_nil (nx := 7) rfl ?_
          refine qW.blk rfl ?_
          refine qv_istore (L' := [_, _, _, _, _, _, _, _]) rfl ?_
          refine qv_iload rfl ?_
          refine qv_if_eq_t (rfl) (tgt := 9) rfl ?_
          refine qW.blk rfl ?_
          refine qv_aload rfl ?_
          refine qv_gr ly_115 ⟨rfl, rfl, rfl⟩ (by omega) ?_
          refine qv_iload rfl ?_
          refine qv_aload rfl ?_
          refine qv_gr ly_115 ⟨rfl, rfl, rfl⟩ (by omega) ?_
          refine qv_iload rfl ?_
          refine qv_ia ly_119 rfl (by omega) (by decide) (g1 (i - a) (by omega)) ?_
          refine qv_is ly_120 rfl (by omega) (by decide) ?_
          refine qv_iinc (L' := [_, _, _, _, _, _, _, _]) rfl (nI_succ _).symm rfl ?_
          refine qv_nil (nx := 10) rfl ?_
          refine qW.blk rfl ?_
          refine qv_iinc (L' := [_, _, _, _, _, _, _, _]) rfl (nI_succ _).symm rfl ?_
          refine qv_goto (tgt := 1) rfl ?_
          exact stepB (fun q => q.elim hb (fun q => haz q.1)) _
  refine qW.blk rfl ?_
  refine qv_aload rfl ?_
  refine qv_aload rfl ?_
  refine qv_virt (ly_115.rcv _) sg_Plots_mattering rfl rfl (w_mattering hP (by omega) hR hT h0 hn hs7 ha7 ?_) 
  refine qv_static sg_Integer_bitCount rfl (w_bitCount hP (by omega) (show mtt D (C 0) < 512 by omega) ?_) 
  refine qv_top (hpc) ?_
  refine qv_istore (L' := [_, _, _, _, _, _, _, _]) rfl ?_
  refine qv_aload rfl ?_
  refine qv_virt (ly_115.rcv _) sg_Plots_there rfl rfl (w_there hP (by omega) h0 hn ?_) 
  refine qv_aload rfl ?_
  refine qv_aload rfl ?_
  refine qv_virt (ly_115.rcv _) sg_Plots_mattering rfl rfl (w_mattering hP (by omega) hR hT h0 hn hs7 ha7 ?_) 
  refine qv_iconst (v := (-1)) rfl ?_
  refine qv_ixor ?_
  refine qv_iand ?_
  refine qv_aload rfl ?_
  refine qv_gr ly_115 ⟨rfl, rfl, rfl⟩ (by omega) ?_
  refine qv_static sg_Orders_spread rfl (wsp _ _ _ (by omega) (fun s1 F1 g1 => ?_)) 
  refine qv_istore (L' := [_, _, _, _, _, _, _, _]) rfl ?_
  refine qv_iconst (v := 0) rfl ?_
  refine qv_istore (L' := [_, _, _, _, _, _, _, _]) rfl ?_
  refine qv_iconst (v := 0) rfl ?_
  refine qv_istore (L' := [_, _, _, _, _, _, _, _]) rfl ?_
  refine qv_iconst (v := 0) rfl ?_
  refine qv_istore (L' := [_, _, _, _, _, _, _, _]) rfl ?_
  refine qv_nil (nx := 1) rfl ?_
  exact loop (C 0) 0 s1 _ (by omega) (F1.mono (by omega) (by omega)) g1 (fun j hj => absurd hj (Nat.not_lt_zero _))
end
section
variable {X : pm_X} {PR : pm_P}
theorem Sim_bestLie (hP : pm_np PR) (t b w : Int32) : Sim X PR 146 238 [.int t, .int b, .int w] := by
  intro d A hd hA
  have hC := hA.1
  have hM := hC.2.2.2.1
  have hn1 := hC.1
  have hn7 := hC.2.1
  have h12 := hC.2.2.2.2.1
  rcases pl_of t (aC A 3) with ⟨k, hk3, rfl⟩ | hn
  · have hD := hA.2.2.2.1 k hk3
    have hK := hD.1
    have hK6 := hD.2.1
    have it : (0 ≤ nI k ∧ nI k ≤ nI (aC A 3) - 1) := (in_nI1 (by omega)).mpr ⟨k, hk3, rfl⟩
    rcases pl_of b (aC A 2) with ⟨m, hm, rfl⟩ | hnb
    · have im : (0 ≤ nI m ∧ nI m ≤ nI (aC A 2) - 1) := (in_nI1 (by omega)).mpr ⟨m, hm, rfl⟩
      by_cases hw : ∃ j, j ≤ 1 ∧ w = nI j
      · obtain ⟨what, hwh, rfl⟩ := hw
        have iw : nI 0 ≤ nI what ∧ nI what ≤ nI 1 := (w_iff (by omega) (by omega) (by omega)).mpr ⟨by omega, hwh⟩
        obtain ⟨z, zo, e, eo, hset⟩ := lset_ex (D := aT A k) hD hC
        have hz7 : z ≤ 7 := by have := hset.2.2.1.1; omega
        obtain ⟨fz1, fz2⟩ := fct7 z (by omega)
        obtain ⟨fn1, fn2⟩ := fct7 (aC A 0) (by omega)
        obtain ⟨k0, hk0, hmin, hlt⟩ := least_first (blu (aC A) m (aT A k) z zo e eo) (fct z) fz2
        obtain ⟨K1, L1, L2, L3, L4⟩ := lie_first hset hk0 hmin hlt
        have w9 := (hC.2.2.2.2.2 m hm).2.2.2.2.2.2
        refine ⟨.int (if what = 0 then nI (dig (mgk z zo e eo k0) (aC A 0)) else nI (blv (aC A) m (aT A k) (mgk z zo e eo k0))), A, hA, ?_, ?_⟩
        · intro s Q hJ hk
          obtain ⟨T, hT1, hT2⟩ := hJ.2.2.2.1 k hk3
          obtain ⟨w', sc, pr, hT3, hT4⟩ := hT2
          have fin : ∀ s', qfr 74 120 s s' → Q (some (.int (if what = 0 then nI (dig (mgk z zo e eo k0) (aC A 0)) else nI (blv (aC A) m (aT A k) (mgk z zo e eo k0))))) s' := fun s' F => hk s' (hJ.fr hA F (by omega)) (F.c (by omega) (by omega))
          refine qP.of (L := [_, _, _, _, _]) (by omega) (hP _ rfl) ms_Desk_bestLie rfl ?_
          show qW X PR (d - 1) (some .int) cd_Desk_bestLie 0 _ _ _ _
          rcases (show what = 0 ∨ what = 1 by omega) with h | h
          · subst h
            rw [if_pos rfl] at fin
            refine qW.blk rfl ?_
            refine qv_aload rfl ?_
            refine qv_gr ly_8 ⟨rfl, rfl, rfl⟩ (by omega) ?_
            refine qv_iload rfl ?_
            refine qv_virtE (ly_9.rcv _) sg_Chamber_treeAt rfl rfl (r_treeAt_y hP (by omega) hJ.1.2.2.2.1 h12 hk3 hT1) ?_
            refine qv_astore (L' := [_, _, _, _, _]) rfl ?_
            refine qv_aload rfl ?_
            refine qv_null_f (nx := 1) rfl ?_
            refine qW.blk rfl ?_
            refine qv_aload rfl ?_
            refine qv_gr ly_8 ⟨rfl, rfl, rfl⟩ (by omega) ?_
            refine qv_iload rfl ?_
            refine qv_virtE (ly_9.rcv _) sg_Chamber_memberAt rfl rfl (r_memberAt_y hP (by omega) hJ.1.2.2.1 hM hm) ?_
            refine qv_null_f (nx := 2) rfl ?_
            refine qW.blk rfl ?_
            refine qv_iload rfl ?_
            refine qv_iconst (v := 0) rfl ?_
            refine qv_iconst (v := 1) rfl ?_
            refine qv_staticE sg_Desk_within rfl (r_Desk_within hP (by omega) (nI 0) (nI 0) (nI 1) _) ?_
            refine qv_if_ne_t (bI_ne.mpr (iw)) (tgt := 4) rfl ?_
            refine qW.blk rfl ?_
            refine qv_aload rfl ?_
            refine qv_gr ly_8 ⟨rfl, rfl, rfl⟩ (by omega) ?_
            refine qv_aload rfl ?_
            refine qv_iload rfl ?_
            refine qv_virt (ly_115.rcv _) sg_Plots_findLie rfl rfl (w_findLie hP (by omega) hJ.1 hset hT3 hT4 hm hk0 hmin hlt (fun s1 F1 q1 q2 => ?_)) 
            refine qv_iload rfl ?_
            refine qv_if_ne_f (fun q => q rfl) (nx := 5) rfl ?_
            refine qW.blk rfl ?_
            refine qv_aload rfl ?_
            refine qv_gr ly_8 ⟨rfl, rfl, rfl⟩ (by omega) ?_
            refine qv_aload rfl ?_
            refine qv_virt (ly_115.rcv _) sg_Plots_lieDigits rfl rfl (w_lieDigits hP (by omega) hset F1.R hT3 ((F1.f (by omega)).trans hJ.1.1) hk0 q1 (fun s2 F2 => ?_)) 
            refine qv_goto (tgt := 7) rfl ?_
            refine qW.blk rfl ?_
            refine qv_iret (rfl) ?_
            exact fin s2 ((F1.mono (by omega) (by omega)).trans (F2.mono (by omega) (by omega)))
          · subst h
            rw [if_neg (by decide)] at fin
            refine qW.blk rfl ?_
            refine qv_aload rfl ?_
            refine qv_gr ly_8 ⟨rfl, rfl, rfl⟩ (by omega) ?_
            refine qv_iload rfl ?_
            refine qv_virtE (ly_9.rcv _) sg_Chamber_treeAt rfl rfl (r_treeAt_y hP (by omega) hJ.1.2.2.2.1 h12 hk3 hT1) ?_
            refine qv_astore (L' := [_, _, _, _, _]) rfl ?_
            refine qv_aload rfl ?_
            refine qv_null_f (nx := 1) rfl ?_
            refine qW.blk rfl ?_
            refine qv_aload rfl ?_
            refine qv_gr ly_8 ⟨rfl, rfl, rfl⟩ (by omega) ?_
            refine qv_iload rfl ?_
            refine qv_virtE (ly_9.rcv _) sg_Chamber_memberAt rfl rfl (r_memberAt_y hP (by omega) hJ.1.2.2.1 hM hm) ?_
            refine qv_null_f (nx := 2) rfl ?_
            refine qW.blk rfl ?_
            refine qv_iload rfl ?_
            refine qv_iconst (v := 0) rfl ?_
            refine qv_iconst (v := 1) rfl ?_
            refine qv_staticE sg_Desk_within rfl (r_Desk_within hP (by omega) (nI 1) (nI 0) (nI 1) _) ?_
            refine qv_if_ne_t (bI_ne.mpr (iw)) (tgt := 4) rfl ?_
            refine qW.blk rfl ?_
            refine qv_aload rfl ?_
            refine qv_gr ly_8 ⟨rfl, rfl, rfl⟩ (by omega) ?_
            refine qv_aload rfl ?_
            refine qv_iload rfl ?_
            refine qv_virt (ly_115.rcv _) sg_Plots_findLie rfl rfl (w_findLie hP (by omega) hJ.1 hset hT3 hT4 hm hk0 hmin hlt (fun s1 F1 q1 q2 => ?_)) 
            refine qv_iload rfl ?_
            refine qv_if_ne_t (by decide) (tgt := 6) rfl ?_
            refine qW.blk rfl ?_
            refine qv_aload rfl ?_
            refine qv_gr ly_8 ⟨rfl, rfl, rfl⟩ (by omega) ?_
            refine qv_gi ly_115 ⟨rfl, rfl, rfl⟩ (q2) ?_
            refine qv_nil (nx := 7) rfl ?_
            refine qW.blk rfl ?_
            refine qv_iret (rfl) ?_
            exact fin s1 (F1.mono (by omega) (by omega))
        · intro s Q hJ hk
          have J1 := hJ.thr (v := 0)
          have U1 : aC A (60 + 7 * m + blv (aC A) m (aT A k) (prow (aC A 0) K1)) = blu (aC A) m (aT A k) z zo e eo k0 := by
            unfold blu; rw [blv_cg L2]
          have uniq : ∀ kb, kb < fct (aC A 0) → (∀ k', k' < fct (aC A 0) → aC A (60 + 7 * m + blv (aC A) m (aT A k) (prow (aC A 0) kb)) ≤ aC A (60 + 7 * m + blv (aC A) m (aT A k) (prow (aC A 0) k'))) → (∀ k', k' < kb → aC A (60 + 7 * m + blv (aC A) m (aT A k) (prow (aC A 0) kb)) < aC A (60 + 7 * m + blv (aC A) m (aT A k) (prow (aC A 0) k'))) → kb = K1 := fun kb h1 h2 h3 => by
            have a := h2 K1 L1
            rw [U1] at a
            have b := L3 _ (prow_ok hn7 h1).1
            rcases Nat.lt_trichotomy kb K1 with u | u | u
            · have := L4 kb u; omega
            · exact u
            · have := h3 K1 u; rw [U1] at this; omega
          have fin : ∀ s', kfr 31 (uF s 163 0 0) s' → qF s' 163 31 = -1 → Q (some (.int (if what = 0 then nI (dig (mgk z zo e eo k0) (aC A 0)) else nI (blv (aC A) m (aT A k) (mgk z zo e eo k0))))) s' := fun s' F h31 => hk s' (J1.kd F (h31.trans J1.2.2.2.2.2.2.2.2.1.symm)) (((qfr.rf s).uF (by omega)).trans F.1)
          refine qP.of (L := [_, _, _, _, _, _, _, _, _, _]) (by omega) (hP _ rfl) ms_Model_bestLie rfl ?_
          show qW X PR (d - 1) (some .int) cd_Model_bestLie 0 _ _ _ _
          have main : ∀ (c K : Nat) (bst gt : Int32) (s1 : QST) (L8 L9 : Option Value), K + c = fct (aC A 0) → kfr 31 (uF s 163 0 0) s1 → qF s1 163 31 = -1 → ((K = 0 ∧ gt = -1) ∨ ∃ kb, kb < K ∧ bst = nI (dig (prow (aC A 0) kb) (aC A 0)) ∧ gt = nI (blv (aC A) m (aT A k) (prow (aC A 0) kb)) ∧ (∀ k', k' < K → aC A (60 + 7 * m + blv (aC A) m (aT A k) (prow (aC A 0) kb)) ≤ aC A (60 + 7 * m + blv (aC A) m (aT A k) (prow (aC A 0) k'))) ∧ ∀ k', k' < kb → aC A (60 + 7 * m + blv (aC A) m (aT A k) (prow (aC A 0) kb)) < aC A (60 + 7 * m + blv (aC A) m (aT A k) (prow (aC A 0) k'))) → qW X PR (d - 1) (some .int) cd_Model_bestLie 5 [some (.ref (163)), some (.int (nI k)), some (.int (nI m)), some (.int (nI what)), some (.int (nI (fct (aC A 0)))), some (.int (bst)), some (.int (gt)), some (.int (nI K)), L8, L9] [] s1 Q := by
            intro c
            induction c with
            | zero =>
              intro K bst gt s1 L8 L9 hKc F1 h31 hinv
              have eK : K = fct (aC A 0) := by omega
              subst eK
              rcases hinv with ⟨q, _⟩ | ⟨kb, b1, b2, b3, b4, b5⟩
              · omega
              · have ek := uniq kb b1 b4 b5
                subst ek
                have f1 := fin s1 F1 h31
                rw [dig_cg _ L2] at b2
                rw [blv_cg L2] at b3
                rw [← b2, ← b3] at f1
                rcases (show what = 0 ∨ what = 1 by omega) with h | h
                · subst h
                  rw [if_pos rfl] at f1
                  refine qW.blk rfl ?_
                  refine qv_iload rfl ?_
                  refine qv_iload rfl ?_
                  refine qv_icmp_geNt rfl rfl (by omega) (by omega) (by omega) (tgt := 16) rfl ?_
                  refine qW.blk rfl ?_
                  refine qv_iload rfl ?_
                  refine qv_if_ne_f (fun q => q rfl) (nx := 17) rfl ?_
                  refine qW.blk rfl ?_
                  refine qv_iload rfl ?_
                  refine qv_goto (tgt := 19) rfl ?_
                  refine qW.blk rfl ?_
                  refine qv_iret (rfl) ?_
                  exact f1
                · subst h
                  rw [if_neg (by decide)] at f1
                  refine qW.blk rfl ?_
                  refine qv_iload rfl ?_
                  refine qv_iload rfl ?_
                  refine qv_icmp_geNt rfl rfl (by omega) (by omega) (by omega) (tgt := 16) rfl ?_
                  refine qW.blk rfl ?_
                  refine qv_iload rfl ?_
                  refine qv_if_ne_t (by decide) (tgt := 18) rfl ?_
                  refine qW.blk rfl ?_
                  refine qv_iload rfl ?_
                  refine qv_nil (nx := 19) rfl ?_
                  refine qW.blk rfl ?_
                  refine qv_iret (rfl) ?_
                  exact f1
            | succ c ih =>
              intro K bst gt s1 L8 L9 hKc F1 h31 hinv
              have hKf : K < fct (aC A 0) := by omega
              have hro := (prow_ok hn7 hKf).1
              have hbl := blv_in (C := aC A) (m := m) (r := prow (aC A 0) K) hD
              have e0 := (J1.k F1).1 0 (by decide)
              -- all is told
              have at12 : ∀ (s2 : QST), kfr 31 (uF s 163 0 0) s2 → (∀ x, x < 7 → qE s2 182 x = nI (plw (prow (aC A 0) K) x (aC A 0))) → ∀ L9, qW X PR (d - 1) (some .int) cd_Model_bestLie 12 [some (.ref (163)), some (.int (nI k)), some (.int (nI m)), some (.int (nI what)), some (.int (nI (fct (aC A 0)))), some (.int (bst)), some (.int (gt)), some (.int (nI K)), some (.int (nI (dig (prow (aC A 0) K) (aC A 0)))), L9] [] s2 Q := by
                intro s2 F2 g182 L9
                have F3 := F2.sF (k := 31) (v := nI m) (by omega)
                have K2 := J1.k F3
                have rv2 := rview_lie K2.1 hC K2.2.2 (l := m) (by omega) qF_uFs (f := fun x => nI (plw (prow (aC A 0) K) x (aC A 0))) g182
                have aft : ∀ s3, efr (uF s2 163 31 (nI m)) s3 → kfr 31 (uF s 163 0 0) (uF s3 163 31 (-1)) ∧ qF (uF s3 163 31 (-1)) 163 31 = -1 ∧ rC (uF s3 163 31 (-1)) 164 (aC A) := fun s3 F4 => by
                  have F5 := (F3.e F4).sF (k := 31) (v := -1) (by omega)
                  exact ⟨F5, qF_uFs, (J1.k F5).1⟩
                have wend : ∀ (d : Nat) (Q : QPost), 9 ≤ d → (∀ s', efr (uF s2 163 31 (nI m)) s' → Q (some (.int (nI (blv (aC A) m (aT A k) (prow (aC A 0) K))))) s') → qP X PR d 199 [.ref 163, .int (nI k)] (uF s2 163 31 (nI m)) Q := fun d Q hd hq => w_M_endOf hP hd rv2 (by omega) hD (K2.2.1 k hk3) (fun s' F _ _ _ => hq s' F)
                rcases hinv with ⟨q1, q2⟩ | ⟨kb, b1, b2, b3, b4, b5⟩
                · subst q2
                  refine qW.blk rfl ?_
                  refine qv_aload rfl ?_
                  refine qv_iload rfl ?_
                  refine qv_pi ly_163 ⟨rfl, rfl, rfl⟩ (rfl) ?_
                  refine qv_aload rfl ?_
                  refine qv_iload rfl ?_
                  refine qv_virt (ly_163.rcv _) sg_Model_endOf rfl rfl (wend _ _ (by omega) (fun s3 F4 => ?_)) 
                  refine qv_istore (L' := [_, _, _, _, _, _, _, _, _, _]) rfl ?_
                  refine qv_aload rfl ?_
                  refine qv_iconst (v := (-1)) rfl ?_
                  refine qv_pi ly_163 ⟨rfl, rfl, rfl⟩ (rfl) ?_
                  refine qv_iload rfl ?_
                  refine qv_if_lt_t (by decide) (tgt := 14) rfl ?_
                  refine qW.blk rfl ?_
                  refine qv_iload rfl ?_
                  refine qv_istore (L' := [_, _, _, _, _, _, _, _, _, _]) rfl ?_
                  refine qv_iload rfl ?_
                  refine qv_istore (L' := [_, _, _, _, _, _, _, _, _, _]) rfl ?_
                  refine qv_nil (nx := 15) rfl ?_
                  refine qW.blk rfl ?_
                  refine qv_iinc (L' := [_, _, _, _, _, _, _, _, _, _]) rfl (nI_succ _).symm rfl ?_
                  refine qv_goto (tgt := 5) rfl ?_
                  obtain ⟨x1, x2, x3⟩ := aft s3 F4
                  exact ih (K + 1) _ _ _ _ _ (by omega) x1 x2 (Or.inr ⟨K, by omega, rfl, rfl, fun k' hk' => by rw [show k' = K by omega]; exact Nat.le_refl _, fun k' hk' => by omega⟩)
                · subst b2
                  subst b3
                  have hbk := blv_in (C := aC A) (m := m) (r := prow (aC A 0) kb) hD
                  have y1 := (w9 _ hbl.1).1
                  have y2 := (w9 _ hbk.1).1
                  obtain ⟨ga, hga⟩ : ∃ ga, blv (aC A) m (aT A k) (prow (aC A 0) K) = ga := ⟨_, rfl⟩
                  obtain ⟨gb, hgb⟩ : ∃ gb, blv (aC A) m (aT A k) (prow (aC A 0) kb) = gb := ⟨_, rfl⟩
                  have goal2 : ∀ L9, qW X PR (d - 1) (some .int) cd_Model_bestLie 12 [some (.ref (163)), some (.int (nI k)), some (.int (nI m)), some (.int (nI what)), some (.int (nI (fct (aC A 0)))), some (.int (nI (dig (prow (aC A 0) kb) (aC A 0)))), some (.int (nI (blv (aC A) m (aT A k) (prow (aC A 0) kb)))), some (.int (nI K)), some (.int (nI (dig (prow (aC A 0) K) (aC A 0)))), L9] [] s2 Q := by
                    intro L9
                    have h7a := hbl.1
                    have h7b := hbk.1
                    by_cases hless : aC A (60 + 7 * m + blv (aC A) m (aT A k) (prow (aC A 0) K)) < aC A (60 + 7 * m + blv (aC A) m (aT A k) (prow (aC A 0) kb))
                    · refine qW.blk rfl ?_
                      refine qv_aload rfl ?_
                      refine qv_iload rfl ?_
                      refine qv_pi ly_163 ⟨rfl, rfl, rfl⟩ (rfl) ?_
                      refine qv_aload rfl ?_
                      refine qv_iload rfl ?_
                      refine qv_virt (ly_163.rcv _) sg_Model_endOf rfl rfl (wend _ _ (by omega) (fun s3 F4 => ?_)) 
                      refine qv_istore (L' := [_, _, _, _, _, _, _, _, _, _]) rfl ?_
                      refine qv_aload rfl ?_
                      refine qv_iconst (v := (-1)) rfl ?_
                      refine qv_pi ly_163 ⟨rfl, rfl, rfl⟩ (rfl) ?_
                      refine qv_iload rfl ?_
                      refine qv_if_lt_f (Int32.not_lt.mpr (nI_pos' (by omega))) (nx := 13) rfl ?_
                      refine qW.blk rfl ?_
                      refine qv_aload rfl ?_
                      refine qv_gr ly_163 ⟨rfl, rfl, rfl⟩ (by omega) ?_
                      refine qv_iconst (v := 60) rfl ?_
                      refine qv_iconst (v := 7) rfl ?_
                      refine qv_iload rfl ?_
                      refine qv_imulN (p := 7) rfl rfl ?_
                      refine qv_iaddN (p := 60) rfl rfl ?_
                      refine qv_iload rfl ?_
                      refine qv_iaddN rfl rfl ?_
                      refine qv_ia ly_164 rfl (by omega) (by decide) ((aft s3 F4).2.2 (60 + 7 * m + blv (aC A) m (aT A k) (prow (aC A 0) K)) (by omega)) ?_
                      refine qv_aload rfl ?_
                      refine qv_gr ly_163 ⟨rfl, rfl, rfl⟩ (by omega) ?_
                      refine qv_iconst (v := 60) rfl ?_
                      refine qv_iconst (v := 7) rfl ?_
                      refine qv_iload rfl ?_
                      refine qv_imulN (p := 7) rfl rfl ?_
                      refine qv_iaddN (p := 60) rfl rfl ?_
                      refine qv_iload rfl ?_
                      refine qv_iaddN rfl rfl ?_
                      refine qv_ia ly_164 rfl (by omega) (by decide) ((aft s3 F4).2.2 (60 + 7 * m + blv (aC A) m (aT A k) (prow (aC A 0) kb)) (by omega)) ?_
                      refine qv_icmp_geNf rfl rfl (by omega) (by omega) (by omega) (nx := 14) rfl ?_
                      refine qW.blk rfl ?_
                      refine qv_iload rfl ?_
                      refine qv_istore (L' := [_, _, _, _, _, _, _, _, _, _]) rfl ?_
                      refine qv_iload rfl ?_
                      refine qv_istore (L' := [_, _, _, _, _, _, _, _, _, _]) rfl ?_
                      refine qv_nil (nx := 15) rfl ?_
                      refine qW.blk rfl ?_
                      refine qv_iinc (L' := [_, _, _, _, _, _, _, _, _, _]) rfl (nI_succ _).symm rfl ?_
                      refine qv_goto (tgt := 5) rfl ?_
                      obtain ⟨x1, x2, x3⟩ := aft s3 F4
                      refine ih (K + 1) _ _ _ _ _ (by omega) x1 x2 (Or.inr ⟨K, by omega, rfl, rfl, fun k' hk' => ?_, fun k' hk' => ?_⟩)
                      · by_cases ek : k' = K
                        · subst ek; exact Nat.le_refl _
                        · have := b4 k' (by omega); omega
                      · have := b4 k' hk'; omega
                    · refine qW.blk rfl ?_
                      refine qv_aload rfl ?_
                      refine qv_iload rfl ?_
                      refine qv_pi ly_163 ⟨rfl, rfl, rfl⟩ (rfl) ?_
                      refine qv_aload rfl ?_
                      refine qv_iload rfl ?_
                      refine qv_virt (ly_163.rcv _) sg_Model_endOf rfl rfl (wend _ _ (by omega) (fun s3 F4 => ?_)) 
                      refine qv_istore (L' := [_, _, _, _, _, _, _, _, _, _]) rfl ?_
                      refine qv_aload rfl ?_
                      refine qv_iconst (v := (-1)) rfl ?_
                      refine qv_pi ly_163 ⟨rfl, rfl, rfl⟩ (rfl) ?_
                      refine qv_iload rfl ?_
                      refine qv_if_lt_f (Int32.not_lt.mpr (nI_pos' (by omega))) (nx := 13) rfl ?_
                      refine qW.blk rfl ?_
                      refine qv_aload rfl ?_
                      refine qv_gr ly_163 ⟨rfl, rfl, rfl⟩ (by omega) ?_
                      refine qv_iconst (v := 60) rfl ?_
                      refine qv_iconst (v := 7) rfl ?_
                      refine qv_iload rfl ?_
                      refine qv_imulN (p := 7) rfl rfl ?_
                      refine qv_iaddN (p := 60) rfl rfl ?_
                      refine qv_iload rfl ?_
                      refine qv_iaddN rfl rfl ?_
                      refine qv_ia ly_164 rfl (by omega) (by decide) ((aft s3 F4).2.2 (60 + 7 * m + blv (aC A) m (aT A k) (prow (aC A 0) K)) (by omega)) ?_
                      refine qv_aload rfl ?_
                      refine qv_gr ly_163 ⟨rfl, rfl, rfl⟩ (by omega) ?_
                      refine qv_iconst (v := 60) rfl ?_
                      refine qv_iconst (v := 7) rfl ?_
                      refine qv_iload rfl ?_
                      refine qv_imulN (p := 7) rfl rfl ?_
                      refine qv_iaddN (p := 60) rfl rfl ?_
                      refine qv_iload rfl ?_
                      refine qv_iaddN rfl rfl ?_
                      refine qv_ia ly_164 rfl (by omega) (by decide) ((aft s3 F4).2.2 (60 + 7 * m + blv (aC A) m (aT A k) (prow (aC A 0) kb)) (by omega)) ?_
                      refine qv_icmp_geNt rfl rfl (by omega) (by omega) (by omega) (tgt := 15) rfl ?_
                      refine qW.blk rfl ?_
                      refine qv_iinc (L' := [_, _, _, _, _, _, _, _, _, _]) rfl (nI_succ _).symm rfl ?_
                      refine qv_goto (tgt := 5) rfl ?_
                      obtain ⟨x1, x2, x3⟩ := aft s3 F4
                      refine ih (K + 1) _ _ _ _ _ (by omega) x1 x2 (Or.inr ⟨kb, by omega, rfl, rfl, fun k' hk' => ?_, b5⟩)
                      by_cases ek : k' = K
                      · subst ek; omega
                      · exact b4 k' (by omega)
                  exact goal2 L9
              have digs : ∀ (r q : Nat) (v : Int32) (s2 : QST), r + q = aC A 0 → v = nI r - 1 → kfr 31 (uF s 163 0 0) s2 → (∀ j, j < aC A 0 → qE s2 191 j = nI (prow (aC A 0) K j)) → (∀ j, r ≤ j → j < aC A 0 → qE s2 182 (prow (aC A 0) K j) = nI j) → (∀ x, x < 7 → (∀ j, r ≤ j → j < aC A 0 → prow (aC A 0) K j ≠ x) → qE s2 182 x = 9) → qW X PR (d - 1) (some .int) cd_Model_bestLie 10 [some (.ref (163)), some (.int (nI k)), some (.int (nI m)), some (.int (nI what)), some (.int (nI (fct (aC A 0)))), some (.int (bst)), some (.int (gt)), some (.int (nI K)), some (.int (nI (dgt (prow (aC A 0) K) (aC A 0) q))), some (.int (v))] [] s2 Q := by
                intro r
                induction r with
                | zero =>
                  intro q v s2 hr hv F2 g191 gy gn
                  subst hv
                  have eq0 : q = aC A 0 := by omega
                  subst eq0
                  have hd0 : dgt (prow (aC A 0) K) (aC A 0) (aC A 0) = dig (prow (aC A 0) K) (aC A 0) := by
                    have := dgt_dig (l := prow (aC A 0) K) (n := aC A 0) (aC A 0) (Nat.le_refl _)
                    rw [Nat.sub_self] at this
                    rw [← this]; show _ = dgt (prow (aC A 0) K) (aC A 0) (aC A 0) * 1 + 0; omega
                  rw [hd0]
                  refine qW.blk rfl ?_
                  refine qv_iload rfl ?_
                  refine qv_if_lt_t (by decide) (tgt := 12) rfl ?_
                  refine at12 s2 F2 (fun x hx => ?_) _
                  by_cases hxr : ∃ j, j < aC A 0 ∧ prow (aC A 0) K j = x
                  · obtain ⟨j, j1, j2⟩ := hxr
                    rw [← j2, gy j (Nat.zero_le _) j1, plw_y (n := aC A 0) hro.2 j1]
                  · rw [gn x hx (fun j _ hj q => hxr ⟨j, hj, q⟩), plw_n _ (fun i hi q => hxr ⟨i, hi, q⟩)]
                    rfl
                | succ r ihr =>
                  intro q v s2 hr hv F2 g191 gy gn
                  rw [nI_dec] at hv
                  subst hv
                  have hrr := hro.1 r (by omega)
                  have er : aC A 0 - 1 - q = r := by omega
                  have nx := ihr (q + 1) (nI r - 1) (uE s2 182 (prow (aC A 0) K r) (nI r)) (by omega) rfl (F2.sE (by omega)) (fun j hj => by rw [qE_uEc (by omega)]; exact g191 j hj) (fun j h1 h2 => by
                    by_cases ej : j = r
                    · subst ej; rw [qE_uEs]
                    · rw [qE_uEk (Ne.symm (hro.2 r j (by omega) h2))]; exact gy j (by omega) h2) (fun x hx hxn => by
                    rw [qE_uEk (fun q => hxn r (Nat.le_refl _) (by omega) q.symm)]
                    exact gn x hx (fun j h1 h2 => hxn j (by omega) h2))
                  have ed : dgt (prow (aC A 0) K) (aC A 0) (q + 1) = 8 * dgt (prow (aC A 0) K) (aC A 0) q + prow (aC A 0) K r := by show dgt (prow (aC A 0) K) (aC A 0) q * 8 + prow (aC A 0) K (aC A 0 - 1 - q) = _; rw [er, Nat.mul_comm]
                  rw [ed] at nx
                  refine qW.blk rfl ?_
                  refine qv_iload rfl ?_
                  refine qv_if_lt_f (Int32.not_lt.mpr (nI_pos' (by omega))) (nx := 11) rfl ?_
                  refine qW.blk rfl ?_
                  refine qv_aload rfl ?_
                  refine qv_gr ly_163 ⟨rfl, rfl, rfl⟩ (by omega) ?_
                  refine qv_aload rfl ?_
                  refine qv_gr ly_163 ⟨rfl, rfl, rfl⟩ (by omega) ?_
                  refine qv_iload rfl ?_
                  refine qv_ia ly_191 (rfl) (by omega) (by decide) (g191 r (by omega)) ?_
                  refine qv_iload rfl ?_
                  refine qv_is ly_182 rfl (by omega) (by decide) ?_
                  refine qv_iconst (v := 8) rfl ?_
                  refine qv_iload rfl ?_
                  refine qv_imulN (p := 8) rfl rfl ?_
                  refine qv_aload rfl ?_
                  refine qv_gr ly_163 ⟨rfl, rfl, rfl⟩ (by omega) ?_
                  refine qv_iload rfl ?_
                  refine qv_ia ly_191 (rfl) (by omega) (by decide) ((congrFun (qE_uEc (show (191 : Nat) ≠ 182 by decide)) r).trans (g191 r (by omega))) ?_
                  refine qv_iaddN rfl rfl ?_
                  refine qv_istore (L' := [_, _, _, _, _, _, _, _, _, _]) rfl ?_
                  refine qv_iinc (L' := [_, _, _, _, _, _, _, _, _, _]) rfl (dec_eq _) rfl ?_
                  refine qv_goto (tgt := 10) rfl ?_
                  exact nx
              have fills : ∀ (c2 i : Nat) (s2 : QST), i + c2 = 7 → kfr 31 (uF s 163 0 0) s2 → qF s2 163 45 = nI (aC A 0) → (∀ j, j < aC A 0 → qE s2 191 j = nI (prow (aC A 0) K j)) → (∀ x, x < i → qE s2 182 x = 9) → qW X PR (d - 1) (some .int) cd_Model_bestLie 7 [some (.ref (163)), some (.int (nI k)), some (.int (nI m)), some (.int (nI what)), some (.int (nI (fct (aC A 0)))), some (.int (bst)), some (.int (gt)), some (.int (nI K)), some (.int 0), some (.int (nI i))] [] s2 Q := by
                intro c2
                induction c2 with
                | zero =>
                  intro i s2 hi F2 g45 g191 g9
                  have ei : i = 7 := by omega
                  subst ei
                  refine qW.blk rfl ?_
                  refine qv_iload rfl ?_
                  refine qv_iconst (v := 7) rfl ?_
                  refine qv_icmp_geNt (q := 7) rfl rfl (by omega) (by omega) (by omega) (tgt := 9) rfl ?_
                  refine qW.blk rfl ?_
                  refine qv_aload rfl ?_
                  refine qv_gi ly_163 ⟨rfl, rfl, rfl⟩ (g45) ?_
                  refine qv_iconst (v := 1) rfl ?_
                  refine qv_isub ?_
                  refine qv_istore (L' := [_, _, _, _, _, _, _, _, _, _]) rfl ?_
                  refine qv_nil (nx := 10) rfl ?_
                  exact digs (aC A 0) 0 _ s2 (by omega) rfl F2 g191 (fun j h1 h2 => by omega) (fun x hx _ => g9 x hx)
                | succ c2 ih2 =>
                  intro i s2 hi F2 g45 g191 g9
                  refine qW.blk rfl ?_
                  refine qv_iload rfl ?_
                  refine qv_iconst (v := 7) rfl ?_
                  refine qv_icmp_geNf (q := 7) rfl rfl (by omega) (by omega) (by omega) (nx := 8) rfl ?_
                  refine qW.blk rfl ?_
                  refine qv_aload rfl ?_
                  refine qv_gr ly_163 ⟨rfl, rfl, rfl⟩ (by omega) ?_
                  refine qv_iload rfl ?_
                  refine qv_iconst (v := 9) rfl ?_
                  refine qv_is ly_182 rfl (by omega) (by decide) ?_
                  refine qv_iinc (L' := [_, _, _, _, _, _, _, _, _, _]) rfl (nI_succ _).symm rfl ?_
                  refine qv_goto (tgt := 7) rfl ?_
                  refine ih2 (i + 1) _ (by omega) (F2.sE (by omega)) g45 (fun j hj => by rw [qE_uEc (by omega)]; exact g191 j hj) (fun x hx => ?_)
                  by_cases ex : x = i
                  · subst ex; rw [qE_uEs]
                  · rw [qE_uEk ex]; exact g9 x (by omega)
              refine qW.blk rfl ?_
              refine qv_iload rfl ?_
              refine qv_iload rfl ?_
              refine qv_icmp_geNf rfl rfl (by omega) (by omega) (by omega) (nx := 6) rfl ?_
              refine qW.blk rfl ?_
              refine qv_aload rfl ?_
              refine qv_iload rfl ?_
              refine qv_iload rfl ?_
              refine qv_virt (ly_163.rcv _) sg_Model_findOrder rfl rfl (w_findOrder hP (by omega) e0 hn7 (prow_is hn7 hKf) (fun s2 F2 q1 q2 q3 => ?_)) 
              refine qv_iconst (v := 0) rfl ?_
              refine qv_istore (L' := [_, _, _, _, _, _, _, _, _, _]) rfl ?_
              refine qv_iconst (v := 0) rfl ?_
              refine qv_istore (L' := [_, _, _, _, _, _, _, _, _, _]) rfl ?_
              refine qv_nil (nx := 7) rfl ?_
              exact fills 7 0 s2 rfl (F1.trans F2.k) q2 q3 (fun x hx => absurd hx (Nat.not_lt_zero _))
          refine qW.blk rfl ?_
          refine qv_aload rfl ?_
          refine qv_iconst (v := 0) rfl ?_
          refine qv_pi ly_163 ⟨rfl, rfl, rfl⟩ (rfl) ?_
          refine qv_aload rfl ?_
          refine qv_iload rfl ?_
          refine qv_virtE (ly_163.rcv _) sg_Model_isTree rfl rfl (r_M_isTree hP (by omega) (nI k) (J1.1 3 (by decide))) ?_
          refine qv_if_eq_f (bI_ne.mpr (it)) (nx := 1) rfl ?_
          refine qW.blk rfl ?_
          refine qv_aload rfl ?_
          refine qv_iload rfl ?_
          refine qv_virtE (ly_163.rcv _) sg_Model_isMember rfl rfl (r_M_isMember hP (by omega) (nI m) (J1.1 2 (by decide))) ?_
          refine qv_if_eq_f (bI_ne.mpr (im)) (nx := 2) rfl ?_
          refine qW.blk rfl ?_
          refine qv_iload rfl ?_
          refine qv_iconst (v := 0) rfl ?_
          refine qv_iconst (v := 1) rfl ?_
          refine qv_staticE sg_Model_in rfl (r_Model_in hP (by omega) (nI what) (nI 0) (nI 1) _) ?_
          refine qv_if_ne_t (bI_ne.mpr (iw)) (tgt := 4) rfl ?_
          refine qW.blk rfl ?_
          refine qv_aload rfl ?_
          refine qv_virt (ly_163.rcv _) sg_Model_allOrders rfl rfl (w_allOrders hP (by omega) (J1.1 0 (by decide)) hn1 hn7 ?_) 
          refine qv_istore (L' := [_, _, _, _, _, _, _, _, _, _]) rfl ?_
          refine qv_iconst (v := 0) rfl ?_
          refine qv_istore (L' := [_, _, _, _, _, _, _, _, _, _]) rfl ?_
          refine qv_iconst (v := (-1)) rfl ?_
          refine qv_istore (L' := [_, _, _, _, _, _, _, _, _, _]) rfl ?_
          refine qv_iconst (v := 0) rfl ?_
          refine qv_istore (L' := [_, _, _, _, _, _, _, _, _, _]) rfl ?_
          refine qv_nil (nx := 5) rfl ?_
          exact main _ 0 _ _ _ _ _ (Nat.zero_add _) (kfr.rf _ _) J1.2.2.2.2.2.2.2.2.1 (Or.inl ⟨rfl, rfl⟩)
      · have hw' : ¬ (0 ≤ w ∧ w ≤ nI 1) := fun z => hw ((in_nI (n := 1) (by omega)).mp z)
        refine ⟨.int (-1), A, hA, ?_, ?_⟩
        · intro s Q hJ hk
          obtain ⟨T, hT1, hT2⟩ := hJ.2.2.2.1 k hk3
          refine qP.of (L := [_, _, _, _, _]) (by omega) (hP _ rfl) ms_Desk_bestLie rfl ?_
          show qW X PR (d - 1) (some .int) cd_Desk_bestLie 0 _ _ _ _
          refine qW.blk rfl ?_
          refine qv_aload rfl ?_
          refine qv_gr ly_8 ⟨rfl, rfl, rfl⟩ (by omega) ?_
          refine qv_iload rfl ?_
          refine qv_virtE (ly_9.rcv _) sg_Chamber_treeAt rfl rfl (r_treeAt_y hP (by omega) hJ.1.2.2.2.1 h12 hk3 hT1) ?_
          refine qv_astore (L' := [_, _, _, _, _]) rfl ?_
          refine qv_aload rfl ?_
          refine qv_null_f (nx := 1) rfl ?_
          refine qW.blk rfl ?_
          refine qv_aload rfl ?_
          refine qv_gr ly_8 ⟨rfl, rfl, rfl⟩ (by omega) ?_
          refine qv_iload rfl ?_
          refine qv_virtE (ly_9.rcv _) sg_Chamber_memberAt rfl rfl (r_memberAt_y hP (by omega) hJ.1.2.2.1 hM hm) ?_
          refine qv_null_f (nx := 2) rfl ?_
          refine qW.blk rfl ?_
          refine qv_iload rfl ?_
          refine qv_iconst (v := 0) rfl ?_
          refine qv_iconst (v := 1) rfl ?_
          refine qv_staticE sg_Desk_within rfl (r_Desk_within hP (by omega) w 0 (nI 1) _) ?_
          refine qv_if_ne_f (fun zq => zq (bI_f (hw'))) (nx := 3) rfl ?_
          refine qW.blk rfl ?_
          refine qv_iconst (v := (-1)) rfl ?_
          refine qv_iret (rfl) ?_
          exact hk s hJ (cfr.rf s)
        · intro s Q hJ hk
          have J1 := hJ.thr (v := 0)
          refine qP.of (L := [_, _, _, _, _, _, _, _, _, _]) (by omega) (hP _ rfl) ms_Model_bestLie rfl ?_
          show qW X PR (d - 1) (some .int) cd_Model_bestLie 0 _ _ _ _
          refine qW.blk rfl ?_
          refine qv_aload rfl ?_
          refine qv_iconst (v := 0) rfl ?_
          refine qv_pi ly_163 ⟨rfl, rfl, rfl⟩ (rfl) ?_
          refine qv_aload rfl ?_
          refine qv_iload rfl ?_
          refine qv_virtE (ly_163.rcv _) sg_Model_isTree rfl rfl (r_M_isTree hP (by omega) (nI k) (J1.1 3 (by decide))) ?_
          refine qv_if_eq_f (bI_ne.mpr (it)) (nx := 1) rfl ?_
          refine qW.blk rfl ?_
          refine qv_aload rfl ?_
          refine qv_iload rfl ?_
          refine qv_virtE (ly_163.rcv _) sg_Model_isMember rfl rfl (r_M_isMember hP (by omega) (nI m) (J1.1 2 (by decide))) ?_
          refine qv_if_eq_f (bI_ne.mpr (im)) (nx := 2) rfl ?_
          refine qW.blk rfl ?_
          refine qv_iload rfl ?_
          refine qv_iconst (v := 0) rfl ?_
          refine qv_iconst (v := 1) rfl ?_
          refine qv_staticE sg_Model_in rfl (r_Model_in hP (by omega) w 0 (nI 1) _) ?_
          refine qv_if_ne_f (fun zq => zq (bI_f (hw'))) (nx := 3) rfl ?_
          refine qW.blk rfl ?_
          refine qv_iconst (v := (-1)) rfl ?_
          refine qv_iret (rfl) ?_
          exact hk (uF s 163 0 0) J1 ((qfr.rf s).uF (by omega))
    · have im : ¬ (0 ≤ b ∧ b ≤ nI (aC A 2) - 1) := fun z => hnb ((in_nI1 (by omega)).mp z)
      refine ⟨.int (-1), A, hA, ?_, ?_⟩
      · intro s Q hJ hk
        obtain ⟨T, hT1, hT2⟩ := hJ.2.2.2.1 k hk3
        refine qP.of (L := [_, _, _, _, _]) (by omega) (hP _ rfl) ms_Desk_bestLie rfl ?_
        show qW X PR (d - 1) (some .int) cd_Desk_bestLie 0 _ _ _ _
        refine qW.blk rfl ?_
        refine qv_aload rfl ?_
        refine qv_gr ly_8 ⟨rfl, rfl, rfl⟩ (by omega) ?_
        refine qv_iload rfl ?_
        refine qv_virtE (ly_9.rcv _) sg_Chamber_treeAt rfl rfl (r_treeAt_y hP (by omega) hJ.1.2.2.2.1 h12 hk3 hT1) ?_
        refine qv_astore (L' := [_, _, _, _, _]) rfl ?_
        refine qv_aload rfl ?_
        refine qv_null_f (nx := 1) rfl ?_
        refine qW.blk rfl ?_
        refine qv_aload rfl ?_
        refine qv_gr ly_8 ⟨rfl, rfl, rfl⟩ (by omega) ?_
        refine qv_iload rfl ?_
        refine qv_virtE (ly_9.rcv _) sg_Chamber_memberAt rfl rfl (r_memberAt_n hP (by omega) hJ.1.2.2.1 hM hnb) ?_
        refine qv_null_t (tgt := 3) rfl ?_
        refine qW.blk rfl ?_
        refine qv_iconst (v := (-1)) rfl ?_
        refine qv_iret (rfl) ?_
        exact hk s hJ (cfr.rf s)
      · intro s Q hJ hk
        have J1 := hJ.thr (v := 0)
        refine qP.of (L := [_, _, _, _, _, _, _, _, _, _]) (by omega) (hP _ rfl) ms_Model_bestLie rfl ?_
        show qW X PR (d - 1) (some .int) cd_Model_bestLie 0 _ _ _ _
        refine qW.blk rfl ?_
        refine qv_aload rfl ?_
        refine qv_iconst (v := 0) rfl ?_
        refine qv_pi ly_163 ⟨rfl, rfl, rfl⟩ (rfl) ?_
        refine qv_aload rfl ?_
        refine qv_iload rfl ?_
        refine qv_virtE (ly_163.rcv _) sg_Model_isTree rfl rfl (r_M_isTree hP (by omega) (nI k) (J1.1 3 (by decide))) ?_
        refine qv_if_eq_f (bI_ne.mpr (it)) (nx := 1) rfl ?_
        refine qW.blk rfl ?_
        refine qv_aload rfl ?_
        refine qv_iload rfl ?_
        refine qv_virtE (ly_163.rcv _) sg_Model_isMember rfl rfl (r_M_isMember hP (by omega) b (J1.1 2 (by decide))) ?_
        refine qv_if_eq_t (bI_f (im)) (tgt := 3) rfl ?_
        refine qW.blk rfl ?_
        refine qv_iconst (v := (-1)) rfl ?_
        refine qv_iret (rfl) ?_
        exact hk (uF s 163 0 0) J1 ((qfr.rf s).uF (by omega))
  · have ht : ¬ (0 ≤ t ∧ t ≤ nI (aC A 3) - 1) := fun z => hn ((in_nI1 (by omega)).mp z)
    refine ⟨.int (-1), A, hA, ?_, ?_⟩
    · intro s Q hJ hk
      refine qP.of (L := [_, _, _, _, _]) (by omega) (hP _ rfl) ms_Desk_bestLie rfl ?_
      show qW X PR (d - 1) (some .int) cd_Desk_bestLie 0 _ _ _ _
      refine qW.blk rfl ?_
      refine qv_aload rfl ?_
      refine qv_gr ly_8 ⟨rfl, rfl, rfl⟩ (by omega) ?_
      refine qv_iload rfl ?_
      refine qv_virtE (ly_9.rcv _) sg_Chamber_treeAt rfl rfl (r_treeAt_n hP (by omega) hJ.1.2.2.2.1 h12 hn) ?_
      refine qv_astoreN (L' := [_, _, _, _, _]) rfl ?_
      refine qv_aloadN rfl ?_
      refine qv_null_t (tgt := 3) rfl ?_
      refine qW.blk rfl ?_
      refine qv_iconst (v := (-1)) rfl ?_
      refine qv_iret (rfl) ?_
      exact hk s hJ (cfr.rf s)
    · intro s Q hJ hk
      have J1 := hJ.thr (v := 0)
      refine qP.of (L := [_, _, _, _, _, _, _, _, _, _]) (by omega) (hP _ rfl) ms_Model_bestLie rfl ?_
      show qW X PR (d - 1) (some .int) cd_Model_bestLie 0 _ _ _ _
      refine qW.blk rfl ?_
      refine qv_aload rfl ?_
      refine qv_iconst (v := 0) rfl ?_
      refine qv_pi ly_163 ⟨rfl, rfl, rfl⟩ (rfl) ?_
      refine qv_aload rfl ?_
      refine qv_iload rfl ?_
      refine qv_virtE (ly_163.rcv _) sg_Model_isTree rfl rfl (r_M_isTree hP (by omega) t (J1.1 3 (by decide))) ?_
      refine qv_if_eq_t (bI_f (ht)) (tgt := 3) rfl ?_
      refine qW.blk rfl ?_
      refine qv_iconst (v := (-1)) rfl ?_
      refine qv_iret (rfl) ?_
      exact hk (uF s 163 0 0) J1 ((qfr.rf s).uF (by omega))
end
