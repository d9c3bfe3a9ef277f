/-! ring is alike, its Sim -/
theorem spl_hi {T n : Nat} : ∀ c, (∀ y, n ≤ y → ¬ btn T y) → spl T (n + c) = spl T n := by
  intro c
  induction c with
  | zero => intro _; rfl
  | succ c ih =>
    intro h
    have : spl T (n + c + 1) = spl T (n + c) := if_neg (h _ (by omega))
    show spl T (n + c + 1) = _
    rw [this, ih h]
theorem lt_btn {T n y : Nat} (h : T < 2 ^ n) (hy : n ≤ y) : ¬ btn T y := by
  rw [btn_tb, Nat.testBit_lt_two_pow (Nat.lt_of_lt_of_le h (Nat.pow_le_pow_right (by omega) hy))]
  exact fun q => by cases q
section
variable {X : pm_X} {PR : pm_P}
theorem Sim_ring (hP : pm_np PR) (i : Int32) : Sim X PR 148 240 [.int i] := by
  intro d A hd hA
  have hC := hA.1
  have hM := hC.2.2.2.1
  have hn1 := hC.1
  have hn7 := hC.2.1
  have vk := cvw_ok5 hC
  by_cases h0 : ∃ j, j ≤ 6 ∧ i = nI j
  · obtain ⟨i0, hi0, rfl⟩ := h0
    have ij : nI 0 ≤ nI i0 ∧ nI i0 ≤ nI 6 := (w_iff (by omega) (by omega) (by omega)).mpr ⟨by omega, hi0⟩
    obtain ⟨hd1⟩ : Nonempty (∀ x, Decidable (tops (cvw (aC A)) (aC A 0) x)) := ⟨fun _ => Classical.propDecidable _⟩
    obtain ⟨T, hT⟩ : ∃ T, T = bsN (tops (cvw (aC A)) (aC A 0)) (aC A 0) := ⟨_, rfl⟩
    have hTn : T < 2 ^ aC A 0 := by rw [hT]; exact bsN_lt (aC A 0)
    have hTb : ∀ y, y < 8 → (btn T y ↔ (y < aC A 0 ∧ tops (cvw (aC A)) (aC A 0) y)) := fun y hy => by rw [hT]; exact bsN_bit hy (aC A 0) (by omega)
    have hs7 : spl T 7 = spl T (aC A 0) := by
      have := spl_hi (T := T) (n := aC A 0) (7 - aC A 0) (fun y hy => lt_btn hTn hy)
      rw [show aC A 0 + (7 - aC A 0) = 7 by omega] at this
      exact this
    obtain ⟨z, hz⟩ : ∃ z, z = (spl T 7).length := ⟨_, rfl⟩
    obtain ⟨e, he⟩ : ∃ e : Nat → Nat, ∀ j, e j = (spl T 7).getD j 0 := ⟨fun j => (spl T 7).getD j 0, fun _ => rfl⟩
    have hz7 : z ≤ 7 := by rw [hz]; exact spl_le 7
    have he7 : ∀ j, j < z → e j < 7 := fun j hj => by rw [he j]; exact ((spl_lt (T := T) 7).1 j (by omega)).1
    obtain ⟨v, hv, hr⟩ : ∃ v : Int32, (if z < 3 ∨ z ≤ i0 then v = -4 else (∃ k0, k0 < fct z ∧ prow z k0 0 = 0 ∧ rng (cvw (aC A)) (fun j => e (prow z k0 j)) z ∧ (∀ k, k < k0 → k < fct z → prow z k 0 = 0 → ¬ rng (cvw (aC A)) (fun j => e (prow z k j)) z) ∧ v = nI (e (prow z k0 i0))) ∨ ((∀ k, k < fct z → prow z k 0 = 0 → ¬ rng (cvw (aC A)) (fun j => e (prow z k j)) z) ∧ v = -4)) ∧ (¬ (z < 3 ∨ z ≤ i0) → ∃ (q0 : Nat → Nat) (u : Int32), ((∃ w0, w0 < z ^ (z - 1) ∧ rgood (cvw (aC A)) z e w0 ∧ (∀ j, j < z → rq z w0 j = q0 j) ∧ (∀ w, w < w0 → ¬ rgood (cvw (aC A)) z e w) ∧ u = 1) ∨ ((∀ w, ¬ rgood (cvw (aC A)) z e w) ∧ u = 0)) ∧ ((u = 1 ∧ v = nI (e (q0 i0))) ∨ (u = 0 ∧ v = -4))) := by
      by_cases hsm : z < 3 ∨ z ≤ i0
      · exact ⟨-4, by rw [if_pos hsm], fun q => absurd hsm q⟩
      · by_cases hx : ∃ k, k < fct z ∧ (prow z k 0 = 0 ∧ rng (cvw (aC A)) (fun j => e (prow z k j)) z)
        · obtain ⟨k0, ⟨k1, k2, k3⟩, k4⟩ := pk_least _ hx
          have hl : ∀ k, k < k0 → k < fct z → prow z k 0 = 0 → ¬ rng (cvw (aC A)) (fun j => e (prow z k j)) z := fun k h1 h2 h3 h4 => k4 k h1 ⟨h2, h3, h4⟩
          obtain ⟨w0, w1, w2, w3, w4⟩ := ring_least (W := cvw (aC A)) (e := e) (by omega) hz7 k1 k2 k3 hl
          exact ⟨nI (e (prow z k0 i0)), by rw [if_neg hsm]; exact Or.inl ⟨k0, k1, k2, k3, hl, rfl⟩, fun _ => ⟨prow z k0, 1, Or.inl ⟨w0, w1, w2, w3, w4, rfl⟩, Or.inl ⟨rfl, rfl⟩⟩⟩
        · have hl : ∀ k, k < fct z → prow z k 0 = 0 → ¬ rng (cvw (aC A)) (fun j => e (prow z k j)) z := fun k h1 h2 h3 => hx ⟨k, h1, h2, h3⟩
          exact ⟨-4, by rw [if_neg hsm]; exact Or.inr ⟨hl, rfl⟩, fun _ => ⟨fun x => x, 0, Or.inr ⟨ring_none (by omega) hz7 hl, rfl⟩, Or.inr ⟨rfl, rfl⟩⟩⟩
    refine ⟨.int v, A, hA, ?_, ?_⟩
    · intro s Q hJ hk
      refine qP.of (L := [_, _]) (by omega) (hP _ rfl) ms_Desk_ring rfl ?_
      show qW X PR (d - 1) (some .int) cd_Desk_ring 0 _ _ _ _
      refine qW.blk rfl ?_
      refine qv_iload rfl ?_
      refine qv_iconst (v := 0) rfl ?_
      refine qv_iconst (v := 6) rfl ?_
      refine qv_staticE sg_Desk_within rfl (r_Desk_within hP (by omega) (nI i0) (nI 0) (nI 6) _) ?_
      refine qv_if_ne_t (bI_ne.mpr (ij)) (tgt := 2) rfl ?_
      refine qW.blk rfl ?_
      refine qv_aload rfl ?_
      refine qv_virt (ly_8.rcv _) sg_Desk_weighOrders rfl rfl (w_weighOrders hP (by omega) hJ.1 hC (fun t1 F1 g1 => ?_)) 
      refine qv_aload rfl ?_
      refine qv_gr ly_8 ⟨rfl, rfl, rfl⟩ (by omega) ?_
      refine qv_iload rfl ?_
      refine qv_virt (ly_111.rcv _) sg_Orders_ringAt rfl rfl (w_ringAt hP (by omega) vk g1 hn7 (by omega) hT hz he hv (fun t2 F2 => ?_)) 
      refine qv_iret (rfl) ?_
      have F : qfr 74 113 s t2 := (F1.mono (by omega) (by omega)).trans (F2.mono (by omega) (by omega))
      exact hk t2 (hJ.fr hA F (by omega)) (F.c (by omega) (by omega))
    · intro s Q hJ hk
      have J1 := hJ.thr (v := 0)
      have rv := rview_neu J1.1 hC J1.2.2.2.2.2
      have ea := all7 (aC A 0) (by omega)
      have ha := (all_bit (aC A 0) (by omega)).2
      have fin : ∀ s1, qfr 194 195 (uF s 163 0 0) s1 → Q (some (.int v)) s1 := fun s1 F => hk s1 (J1.fr ((rfr.rf _).sQ F (by omega))) (((qfr.rf s).uF (by omega)).trans (F.mono (by omega) (by omega)))
      refine qP.of (L := [_, _, _, _]) (by omega) (hP _ rfl) ms_Model_ring rfl ?_
      show qW X PR (d - 1) (some .int) cd_Model_ring 0 _ _ _ _
      have loop : ∀ (c x : Nat) (s1 : QST), x + c = aC A 0 → qfr 194 194 (uF s 163 0 0) s1 → (∀ j, j < (spl T x).length → qE s1 194 j = nI ((spl T x).getD j 0)) → qW X PR (d - 1) (some .int) cd_Model_ring 3 [some (.ref (163)), some (.int (nI i0)), some (.int (nI (spl T x).length)), some (.int (nI x))] [] s1 Q := by
        intro c
        induction c with
        | zero =>
          intro x s1 hx F1 g1
          have ex : x = aC A 0 := by omega
          have e0 : qE s1 164 0 = nI (aC A 0) := (F1.e (by omega)).trans (J1.1 0 (by decide))
          rw [ex, ← hs7, ← hz]
          have g2 : ∀ j, j < z → qE s1 194 j = nI (e j) := fun j hj => by
            rw [he j, hs7, ← ex]
            exact g1 j (by rw [ex, ← hs7, ← hz]; exact hj)
          by_cases h3 : z < 3
          · have ev : v = -4 := by rw [if_pos (Or.inl h3)] at hv; exact hv
            rw [ev] at fin
            refine qW.blk rfl ?_
            refine qv_iload rfl ?_
            refine qv_aload rfl ?_
            refine qv_gr ly_163 ⟨rfl, rfl, rfl⟩ (by omega) ?_
            refine qv_iconst (v := 0) rfl ?_
            refine qv_ia (j := 0) ly_164 rfl (by omega) (by decide) (e0) ?_
            refine qv_icmp_geNt rfl rfl (by omega) (by omega) (by omega) (tgt := 7) rfl ?_
            refine qW.blk rfl ?_
            refine qv_iload rfl ?_
            refine qv_iconst (v := 3) rfl ?_
            refine qv_icmp_ltNt (q := 3) rfl rfl (by omega) (by omega) (by omega) (tgt := 10) rfl ?_
            refine qW.blk rfl ?_
            refine qv_iconst (v := (-4)) rfl ?_
            refine qv_goto (tgt := 12) rfl ?_
            refine qW.blk rfl ?_
            refine qv_iret (rfl) ?_
            exact fin s1 (F1.mono (by omega) (by omega))
          · by_cases h4 : z ≤ i0
            · have ev : v = -4 := by rw [if_pos (Or.inr h4)] at hv; exact hv
              rw [ev] at fin
              refine qW.blk rfl ?_
              refine qv_iload rfl ?_
              refine qv_aload rfl ?_
              refine qv_gr ly_163 ⟨rfl, rfl, rfl⟩ (by omega) ?_
              refine qv_iconst (v := 0) rfl ?_
              refine qv_ia (j := 0) ly_164 rfl (by omega) (by decide) (e0) ?_
              refine qv_icmp_geNt rfl rfl (by omega) (by omega) (by omega) (tgt := 7) rfl ?_
              refine qW.blk rfl ?_
              refine qv_iload rfl ?_
              refine qv_iconst (v := 3) rfl ?_
              refine qv_icmp_ltNf (q := 3) rfl rfl (by omega) (by omega) (by omega) (nx := 8) rfl ?_
              refine qW.blk rfl ?_
              refine qv_iload rfl ?_
              refine qv_iload rfl ?_
              refine qv_icmp_geNt rfl rfl (by omega) (by omega) (by omega) (tgt := 10) rfl ?_
              refine qW.blk rfl ?_
              refine qv_iconst (v := (-4)) rfl ?_
              refine qv_goto (tgt := 12) rfl ?_
              refine qW.blk rfl ?_
              refine qv_iret (rfl) ?_
              exact fin s1 (F1.mono (by omega) (by omega))
            · have rv1 : rview s1 (aC A 2) (cvw (aC A)) := rv.fr (F1.E (by omega)) (F1.E (by omega)) (F1.E (by omega)) (fun k _ => F1.f (by omega))
              obtain ⟨q0, u, hu, hor⟩ := hr (by omega)
              rcases hor with ⟨u1, u2⟩ | ⟨u1, u2⟩
              · subst u1
                rw [u2] at fin
                refine qW.blk rfl ?_
                refine qv_iload rfl ?_
                refine qv_aload rfl ?_
                refine qv_gr ly_163 ⟨rfl, rfl, rfl⟩ (by omega) ?_
                refine qv_iconst (v := 0) rfl ?_
                refine qv_ia (j := 0) ly_164 rfl (by omega) (by decide) (e0) ?_
                refine qv_icmp_geNt rfl rfl (by omega) (by omega) (by omega) (tgt := 7) rfl ?_
                refine qW.blk rfl ?_
                refine qv_iload rfl ?_
                refine qv_iconst (v := 3) rfl ?_
                refine qv_icmp_ltNf (q := 3) rfl rfl (by omega) (by omega) (by omega) (nx := 8) rfl ?_
                refine qW.blk rfl ?_
                refine qv_iload rfl ?_
                refine qv_iload rfl ?_
                refine qv_icmp_geNf rfl rfl (by omega) (by omega) (by omega) (nx := 9) rfl ?_
                refine qW.blk rfl ?_
                refine qv_aload rfl ?_
                refine qv_iload rfl ?_
                refine qv_virt (ly_163.rcv _) sg_Model_findRing rfl rfl (w_findRing hP (by omega) rv1 (by omega) hz7 he7 g2 q0 hu (fun s2 F2 q2 => ?_)) 
                refine qv_if_ne_t (by decide) (tgt := 11) rfl ?_
                refine qW.blk rfl ?_
                refine qv_aload rfl ?_
                refine qv_gr ly_163 ⟨rfl, rfl, rfl⟩ (by omega) ?_
                refine qv_iload rfl ?_
                refine qv_ia ly_195 rfl (by omega) (by decide) (q2 rfl i0 (by omega)) ?_
                refine qv_nil (nx := 12) rfl ?_
                refine qW.blk rfl ?_
                refine qv_iret (rfl) ?_
                exact fin s2 ((F1.mono (by omega) (by omega)).trans (F2.mono (by omega) (by omega)))
              · subst u1
                rw [u2] at fin
                refine qW.blk rfl ?_
                refine qv_iload rfl ?_
                refine qv_aload rfl ?_
                refine qv_gr ly_163 ⟨rfl, rfl, rfl⟩ (by omega) ?_
                refine qv_iconst (v := 0) rfl ?_
                refine qv_ia (j := 0) ly_164 rfl (by omega) (by decide) (e0) ?_
                refine qv_icmp_geNt rfl rfl (by omega) (by omega) (by omega) (tgt := 7) rfl ?_
                refine qW.blk rfl ?_
                refine qv_iload rfl ?_
                refine qv_iconst (v := 3) rfl ?_
                refine qv_icmp_ltNf (q := 3) rfl rfl (by omega) (by omega) (by omega) (nx := 8) rfl ?_
                refine qW.blk rfl ?_
                refine qv_iload rfl ?_
                refine qv_iload rfl ?_
                refine qv_icmp_geNf rfl rfl (by omega) (by omega) (by omega) (nx := 9) rfl ?_
                refine qW.blk rfl ?_
                refine qv_aload rfl ?_
                refine qv_iload rfl ?_
                refine qv_virt (ly_163.rcv _) sg_Model_findRing rfl rfl (w_findRing hP (by omega) rv1 (by omega) hz7 he7 g2 q0 hu (fun s2 F2 q2 => ?_)) 
                refine qv_if_ne_f (fun q => q rfl) (nx := 10) rfl ?_
                refine qW.blk rfl ?_
                refine qv_iconst (v := (-4)) rfl ?_
                refine qv_goto (tgt := 12) rfl ?_
                refine qW.blk rfl ?_
                refine qv_iret (rfl) ?_
                exact fin s2 ((F1.mono (by omega) (by omega)).trans (F2.mono (by omega) (by omega)))
        | succ c ih =>
          intro x s1 hx F1 g1
          have e0 : qE s1 164 0 = nI (aC A 0) := (F1.e (by omega)).trans (J1.1 0 (by decide))
          have rv1 : rview s1 (aC A 2) (cvw (aC A)) := rv.fr (F1.E (by omega)) (F1.E (by omega)) (F1.E (by omega)) (fun k _ => F1.f (by omega))
          have hle := spl_le (T := T) x
          by_cases hc : tops (cvw (aC A)) (aC A 0) x
          · have hb : btn T x := (hTb x (by omega)).mpr ⟨by omega, hc⟩
            have es : spl T (x + 1) = spl T x ++ [x] := if_pos hb
            have el : (spl T (x + 1)).length = (spl T x).length + 1 := by rw [es, List.length_append]; rfl
            have nx := ih (x + 1) (uE s1 194 (spl T x).length (nI x)) (by omega) (F1.trans ((qfr.rf s1).uE (by omega))) (fun j hj => by
              rw [el] at hj
              rw [es, getD_snoc]
              by_cases q : j = (spl T x).length
              · rw [if_neg (by omega), if_pos q, q, qE_uEs]
              · rw [if_pos (by omega), qE_uEk q]; exact g1 j (by omega))
            rw [el] at nx
            refine qW.blk rfl ?_
            refine qv_iload rfl ?_
            refine qv_aload rfl ?_
            refine qv_gr ly_163 ⟨rfl, rfl, rfl⟩ (by omega) ?_
            refine qv_iconst (v := 0) rfl ?_
            refine qv_ia (j := 0) ly_164 rfl (by omega) (by decide) (e0) ?_
            refine qv_icmp_geNf rfl rfl (by omega) (by omega) (by omega) (nx := 4) rfl ?_
            refine qW.blk rfl ?_
            refine qv_aload rfl ?_
            refine qv_iload rfl ?_
            refine qv_virt (ly_163.rcv _) sg_Model_reachedFrom rfl rfl (w_M_reachedFrom hP (by omega) rv1 e0 hn7 (by omega) (fun T' hT1 hT2 => ?_)) 
            refine qv_iconst (v := 1) rfl ?_
            refine qv_aload rfl ?_
            refine qv_gr ly_163 ⟨rfl, rfl, rfl⟩ (by omega) ?_
            refine qv_iconst (v := 0) rfl ?_
            refine qv_ia (j := 0) ly_164 rfl (by omega) (by decide) (e0) ?_
            refine qv_ishl ?_
            refine qv_iconst (v := 1) rfl ?_
            refine qv_isub ?_
            refine qv_icmp_ne_f (fun q => q ((congrArg nI ((RS_all hn7 (by omega) hT1 hT2).mpr hc)).trans ea.symm)) (nx := 5) rfl ?_
            refine qW.blk rfl ?_
            refine qv_aload rfl ?_
            refine qv_gr ly_163 ⟨rfl, rfl, rfl⟩ (by omega) ?_
            refine qv_iload rfl ?_
            refine qv_iload rfl ?_
            refine qv_is ly_194 rfl (by omega) (by decide) ?_
            refine qv_iinc (L' := [_, _, _, _]) rfl (nI_succ _).symm rfl ?_
            refine qv_nil (nx := 6) rfl ?_
            refine qW.blk rfl ?_
            refine qv_iinc (L' := [_, _, _, _]) rfl (nI_succ _).symm rfl ?_
            refine qv_goto (tgt := 3) rfl ?_
            exact nx
          · have hb : ¬ btn T x := fun q => hc ((hTb x (by omega)).mp q).2
            have es : spl T (x + 1) = spl T x := if_neg hb
            have nx := ih (x + 1) s1 (by omega) F1 (by rw [es]; exact g1)
            rw [es] at nx
            refine qW.blk rfl ?_
            refine qv_iload rfl ?_
            refine qv_aload rfl ?_
            refine qv_gr ly_163 ⟨rfl, rfl, rfl⟩ (by omega) ?_
            refine qv_iconst (v := 0) rfl ?_
            refine qv_ia (j := 0) ly_164 rfl (by omega) (by decide) (e0) ?_
            refine qv_icmp_geNf rfl rfl (by omega) (by omega) (by omega) (nx := 4) rfl ?_
            refine qW.blk rfl ?_
            refine qv_aload rfl ?_
            refine qv_iload rfl ?_
            refine qv_virt (ly_163.rcv _) sg_Model_reachedFrom rfl rfl (w_M_reachedFrom hP (by omega) rv1 e0 hn7 (by omega) (fun T' hT1 hT2 => ?_)) 
            refine qv_iconst (v := 1) rfl ?_
            refine qv_aload rfl ?_
            refine qv_gr ly_163 ⟨rfl, rfl, rfl⟩ (by omega) ?_
            refine qv_iconst (v := 0) rfl ?_
            refine qv_ia (j := 0) ly_164 rfl (by omega) (by decide) (e0) ?_
            refine qv_ishl ?_
            refine qv_iconst (v := 1) rfl ?_
            refine qv_isub ?_
            refine qv_icmp_ne_t (fun q => hc ((RS_all hn7 (by omega) hT1 hT2).mp ((nI_eq (by omega) (by omega)).mp (q.trans ea)))) (tgt := 6) rfl ?_
            refine qW.blk rfl ?_
            refine qv_iinc (L' := [_, _, _, _]) rfl (nI_succ _).symm rfl ?_
            refine qv_goto (tgt := 3) rfl ?_
            exact nx
      refine qW.blk rfl ?_
      refine qv_aload rfl ?_
      refine qv_iconst (v := 0) rfl ?_
      refine qv_pi ly_163 ⟨rfl, rfl, rfl⟩ (rfl) ?_
      refine qv_iload rfl ?_
      refine qv_iconst (v := 0) rfl ?_
      refine qv_iconst (v := 6) rfl ?_
      refine qv_staticE sg_Model_in rfl (r_Model_in hP (by omega) (nI i0) (nI 0) (nI 6) _) ?_
      refine qv_if_ne_t (bI_ne.mpr (ij)) (tgt := 2) rfl ?_
      refine qW.blk rfl ?_
      refine qv_iconst (v := 0) rfl ?_
      refine qv_istore (L' := [_, _, _, _]) rfl ?_
      refine qv_iconst (v := 0) rfl ?_
      refine qv_istore (L' := [_, _, _, _]) rfl ?_
      refine qv_nil (nx := 3) rfl ?_
      exact loop (aC A 0) 0 _ (by omega) (qfr.rf _) (fun j hj => absurd hj (Nat.not_lt_zero _))
  · have hj : ¬ (0 ≤ i ∧ i ≤ nI 6) := fun z => h0 ((in_nI (n := 6) (by omega)).mp z)
    refine ⟨.int (-1), A, hA, ?_, ?_⟩
    · intro s Q hJ hk
      refine qP.of (L := [_, _]) (by omega) (hP _ rfl) ms_Desk_ring rfl ?_
      show qW X PR (d - 1) (some .int) cd_Desk_ring 0 _ _ _ _
      refine qW.blk rfl ?_
      refine qv_iload rfl ?_
      refine qv_iconst (v := 0) rfl ?_
      refine qv_iconst (v := 6) rfl ?_
      refine qv_staticE sg_Desk_within rfl (r_Desk_within hP (by omega) i 0 (nI 6) _) ?_
      refine qv_if_ne_f (fun zq => zq (bI_f (hj))) (nx := 1) rfl ?_
      refine qW.blk rfl ?_
      refine qv_iconst (v := (-1)) rfl ?_
      refine qv_iret (rfl) ?_
      exact hk s hJ (cfr.rf s)
    · intro s Q hJ hk
      refine qP.of (L := [_, _, _, _]) (by omega) (hP _ rfl) ms_Model_ring rfl ?_
      show qW X PR (d - 1) (some .int) cd_Model_ring 0 _ _ _ _
      refine qW.blk rfl ?_
      refine qv_aload rfl ?_
      refine qv_iconst (v := 0) rfl ?_
      refine qv_pi ly_163 ⟨rfl, rfl, rfl⟩ (rfl) ?_
      refine qv_iload rfl ?_
      refine qv_iconst (v := 0) rfl ?_
      refine qv_iconst (v := 6) rfl ?_
      refine qv_staticE sg_Model_in rfl (r_Model_in hP (by omega) i 0 (nI 6) _) ?_
      refine qv_if_ne_f (fun zq => zq (bI_f (hj))) (nx := 1) rfl ?_
      refine qW.blk rfl ?_
      refine qv_iconst (v := (-1)) rfl ?_
      refine qv_iret (rfl) ?_
      exact hk (uF s 163 0 0) hJ.thr ((qfr.rf s).uF (by omega))
end
