/-! ring is alike -/
theorem div_step {L m w z : Nat} (h : L = w / z ^ m) : L / z = w / z ^ (m + 1) := by rw [h, Nat.pow_succ, Nat.div_div_eq_div_mul]
section
variable {X : pm_X} {PR : pm_P} {s : QST} {Q : QPost}
theorem w_findRing (hP : pm_np PR) {d : Nat} (hd : 6 ≤ d) {N z : Nat} {W : VW} {e : Nat → Nat} {v : Int32} (hv : rview s N W) (hz3 : 3 ≤ z) (hz : z ≤ 7) (he : ∀ j, j < z → e j < 7) (h1 : ∀ j, j < z → qE s 194 j = nI (e j)) (q0 : Nat → Nat) (hr : (∃ w0, w0 < z ^ (z - 1) ∧ rgood W z e w0 ∧ (∀ j, j < z → rq z w0 j = q0 j) ∧ (∀ w, w < w0 → ¬ rgood W z e w) ∧ v = 1) ∨ ((∀ w, ¬ rgood W z e w) ∧ v = 0)) (hk : ∀ s', qfr 195 195 s s' → (v = 1 → ∀ j, j < z → qE s' 195 j = nI (e (q0 j))) → Q (some (.int v)) s') : qP X PR d 241 [.ref 163, .int (nI z)] s Q := by
  refine qP.of (L := [_, _, _, _, _, _, _, _, _]) (by omega) (hP _ rfl) ms_Model_findRing rfl ?_
  show qW X PR (d - 1) (some .boolean) cd_Model_findRing 0 _ _ _ _
  obtain ⟨hdg⟩ : Nonempty (∀ w, Decidable (rgood W z e w)) := ⟨fun _ => Classical.propDecidable _⟩
  have hzp := z_pow z (by omega)
  have he0 := he 0 (by omega)
  have body : ∀ (w : Nat), w < z ^ (z - 1) → ∀ (s1 : QST) (L4 L5 L6 L7 L8 : Option Value), qfr 195 195 s s1 → (rgood W z e w → ∀ s2, qfr 195 195 s s2 → (∀ j, j < z → qE s2 195 j = nI (e (rq z w j))) → Q (some (.int 1)) s2) → (¬ rgood W z e w → ∀ s2 L4 L5 L6 L7 L8, qfr 195 195 s s2 → qW X PR (d - 1) (some .boolean) cd_Model_findRing 18 [some (.ref (163)), some (.int (nI z)), some (.int (nI (z ^ (z - 1)))), some (.int (nI w)), L4, L5, L6, L7, L8] [] s2 Q) → qW X PR (d - 1) (some .boolean) cd_Model_findRing 4 [some (.ref (163)), some (.int (nI z)), some (.int (nI (z ^ (z - 1)))), some (.int (nI w)), L4, L5, L6, L7, L8] [] s1 Q := by
    intro w hw s1 L4 L5 L6 L7 L8 F1 yes no
    -- the ring is looked at
    have look : ∀ (c k is : Nat) (s2 : QST) (L4 : Option Value) (u5 : Int32) (L8 : Option Value), k + c = z → is < 2 → qfr 195 195 s s2 → (∀ j, j < z → qE s2 195 j = nI (e (rq z w j))) → (is = 1 ↔ (rowok z (rq z w) z ∧ ∀ i, i < k → gbts W (e (rq z w i)) (e (rq z w (if i + 1 < z then i + 1 else 0))))) → qW X PR (d - 1) (some .boolean) cd_Model_findRing 13 [some (.ref (163)), some (.int (nI z)), some (.int (nI (z ^ (z - 1)))), some (.int (nI w)), L4, some (.int (u5)), some (.int (nI is)), some (.int (nI k)), L8] [] s2 Q := by
      intro c
      induction c with
      | zero =>
        intro k is s2 L4 u5 L8 hkc his F2 g2 hiff
        have e : k = z := by omega
        subst e
        rcases (show is = 0 ∨ is = 1 by omega) with h | h
        · subst h
          refine qW.blk rfl ?_
          refine qv_iload rfl ?_
          refine qv_iload rfl ?_
          refine qv_icmp_geNt rfl rfl (by omega) (by omega) (by omega) (tgt := 16) rfl ?_
          refine qW.blk rfl ?_
          refine qv_iload rfl ?_
          refine qv_if_eq_t (rfl) (tgt := 18) rfl ?_
          exact no (fun q => absurd (hiff.mpr q) (by decide)) s2 _ _ _ _ _ F2
        · subst h
          refine qW.blk rfl ?_
          refine qv_iload rfl ?_
          refine qv_iload rfl ?_
          refine qv_icmp_geNt rfl rfl (by omega) (by omega) (by omega) (tgt := 16) rfl ?_
          refine qW.blk rfl ?_
          refine qv_iload rfl ?_
          refine qv_if_eq_f (by decide) (nx := 17) rfl ?_
          refine qW.blk rfl ?_
          refine qv_iconst (v := 1) rfl ?_
          refine qv_iret (by first | exact bI_ret | rfl) ?_
          exact yes (hiff.mp rfl) s2 F2 g2
      | succ c ih =>
        intro k is s2 L4 u5 L8 hkc his F2 g2 hiff
        rcases (show is = 0 ∨ is = 1 by omega) with h | h
        · subst h
          refine qW.blk rfl ?_
          refine qv_iload rfl ?_
          refine qv_iload rfl ?_
          refine qv_icmp_geNf rfl rfl (by omega) (by omega) (by omega) (nx := 14) rfl ?_
          refine qW.blk rfl ?_
          refine qv_iload rfl ?_
          refine qv_if_eq_t (rfl) (tgt := 16) rfl ?_
          refine qW.blk rfl ?_
          refine qv_iload rfl ?_
          refine qv_if_eq_t (rfl) (tgt := 18) rfl ?_
          refine no (fun q => absurd (hiff.mpr ⟨q.1, fun i hi => q.2 i (by omega)⟩) (by decide)) s2 _ _ _ _ _ F2
        · subst h
          obtain ⟨g3, g4⟩ := hiff.mp rfl
          have hmod : (k + 1) % z = (if k + 1 < z then k + 1 else 0) := by
            by_cases q : k + 1 < z
            · rw [if_pos q, Nat.mod_eq_of_lt q]
            · rw [if_neg q, show k + 1 = z by omega, Nat.mod_self]
          have hmz : (k + 1) % z < z := Nat.mod_lt _ (by omega)
          have b1 := he _ (rq_lt (z := z) (w := w) (k := k) (by omega))
          have b2 := he _ (rq_lt (z := z) (w := w) (k := (k + 1) % z) (by omega))
          have hv2 : rview s2 N W := hv.fr (F2.E (by omega)) (F2.E (by omega)) (F2.E (by omega)) (fun k _ => F2.f (by omega))
          by_cases hg : gbts W (e (rq z w k)) (e (rq z w ((k + 1) % z)))
          · refine qW.blk rfl ?_
            refine qv_iload rfl ?_
            refine qv_iload rfl ?_
            refine qv_icmp_geNf rfl rfl (by omega) (by omega) (by omega) (nx := 14) rfl ?_
            refine qW.blk rfl ?_
            refine qv_iload rfl ?_
            refine qv_if_eq_f (by decide) (nx := 15) rfl ?_
            refine qW.blk rfl ?_
            refine qv_aload rfl ?_
            refine qv_aload rfl ?_
            refine qv_gr ly_163 ⟨rfl, rfl, rfl⟩ (by omega) ?_
            refine qv_iload rfl ?_
            refine qv_ia ly_195 rfl (by omega) (by decide) (g2 k (by omega)) ?_
            refine qv_aload rfl ?_
            refine qv_gr ly_163 ⟨rfl, rfl, rfl⟩ (by omega) ?_
            refine qv_iload rfl ?_
            refine qv_iconst (v := 1) rfl ?_
            refine qv_iaddN (q := 1) rfl rfl ?_
            refine qv_iload rfl ?_
            refine qv_iremN rfl rfl (by omega) (by omega) (by omega) ?_
            refine qv_ia ly_195 rfl (by omega) (by decide) (g2 ((k + 1) % z) hmz) ?_
            refine qv_virtE (ly_163.rcv _) sg_Model_beats rfl rfl (r_M_bts hP (by omega) hv2 b1 b2) ?_
            refine qv_top (bI_t hg) ?_
            refine qv_istore (L' := [_, _, _, _, _, _, _, _, _]) rfl ?_
            refine qv_iinc (L' := [_, _, _, _, _, _, _, _, _]) rfl (nI_succ _).symm rfl ?_
            refine qv_goto (tgt := 13) rfl ?_
            refine ih (k + 1) 1 s2 _ _ _ (by omega) (by omega) F2 g2 ⟨fun _ => ⟨g3, fun i hi => ?_⟩, fun _ => rfl⟩
            by_cases ei : i = k
            · subst ei; rw [hmod] at hg; exact hg
            · exact g4 i (by omega)
          · refine qW.blk rfl ?_
            refine qv_iload rfl ?_
            refine qv_iload rfl ?_
            refine qv_icmp_geNf rfl rfl (by omega) (by omega) (by omega) (nx := 14) rfl ?_
            refine qW.blk rfl ?_
            refine qv_iload rfl ?_
            refine qv_if_eq_f (by decide) (nx := 15) rfl ?_
            refine qW.blk rfl ?_
            refine qv_aload rfl ?_
            refine qv_aload rfl ?_
            refine qv_gr ly_163 ⟨rfl, rfl, rfl⟩ (by omega) ?_
            refine qv_iload rfl ?_
            refine qv_ia ly_195 rfl (by omega) (by decide) (g2 k (by omega)) ?_
            refine qv_aload rfl ?_
            refine qv_gr ly_163 ⟨rfl, rfl, rfl⟩ (by omega) ?_
            refine qv_iload rfl ?_
            refine qv_iconst (v := 1) rfl ?_
            refine qv_iaddN (q := 1) rfl rfl ?_
            refine qv_iload rfl ?_
            refine qv_iremN rfl rfl (by omega) (by omega) (by omega) ?_
            refine qv_ia ly_195 rfl (by omega) (by decide) (g2 ((k + 1) % z) hmz) ?_
            refine qv_virtE (ly_163.rcv _) sg_Model_beats rfl rfl (r_M_bts hP (by omega) hv2 b1 b2) ?_
            refine qv_top (bI_f hg) ?_
            refine qv_istore (L' := [_, _, _, _, _, _, _, _, _]) rfl ?_
            refine qv_iinc (L' := [_, _, _, _, _, _, _, _, _]) rfl (nI_succ _).symm rfl ?_
            refine qv_goto (tgt := 13) rfl ?_
            refine ih (k + 1) 0 s2 _ _ _ (by omega) (by omega) F2 g2 ⟨fun q => absurd q (by decide), fun q => ?_⟩
            have := q.2 k (by omega)
            rw [← hmod] at this
            exact absurd this hg
    have digs : ∀ (k L is u : Nat) (s2 : QST) (L8 : Option Value), k < z → L = w / z ^ (z - 1 - k) → is < 2 → u < 128 → (∀ y, y < 7 → (btn u y ↔ (y = 0 ∨ ∃ b, k < b ∧ b < z ∧ rq z w b = y))) → (is = 1 ↔ ∀ a b, (a = 0 ∨ k < a) → a < b → b < z → k < b → rq z w a ≠ rq z w b) → qfr 195 195 s s2 → qE s2 195 0 = nI (e 0) → (∀ b, k < b → b < z → qE s2 195 b = nI (e (rq z w b))) → qW X PR (d - 1) (some .boolean) cd_Model_findRing 6 [some (.ref (163)), some (.int (nI z)), some (.int (nI (z ^ (z - 1)))), some (.int (nI w)), some (.int (nI L)), some (.int (nI u)), some (.int (nI is)), some (.int (nI k)), L8] [] s2 Q := by
      intro k
      induction k with
      | zero =>
        intro L is u s2 L8 hkz hL his hu hub hiff F2 g0 g2
        refine qW.blk rfl ?_
        refine qv_iload rfl ?_
        refine qv_if_leNt rfl (by omega) (by omega) (tgt := 12) rfl ?_
        refine qW.blk rfl ?_
        refine qv_iconst (v := 0) rfl ?_
        refine qv_istore (L' := [_, _, _, _, _, _, _, _, _]) rfl ?_
        refine qv_nil (nx := 13) rfl ?_
        refine look z 0 is s2 _ _ _ (by omega) his F2 (fun j hj => ?_) ?_
        · by_cases ej : j = 0
          · subst ej; exact g0
          · exact g2 j (by omega) hj
        · rw [hiff]
          constructor
          · intro q
            exact ⟨⟨fun j hj => rq_lt (by omega), fun a b hab hb => q a b (by omega) hab hb (by omega)⟩, fun i hi => absurd hi (Nat.not_lt_zero _)⟩
          · rintro ⟨q, -⟩ a b _ hab hb _
            exact q.2 a b hab hb
      | succ k ih =>
        intro L is u s2 L8 hkz hL his hu hub hiff F2 g0 g2
        have hLw : L ≤ w := by rw [hL]; exact Nat.div_le_self _ _
        have hd : L % z = rq z w (k + 1) := by
          rw [hL]; unfold rq; rw [if_neg (by omega)]; rfl
        have hdz := rq_lt (z := z) (w := w) (k := k + 1) (by omega)
        have hed := he _ hdz
        have hL2 : L / z = w / z ^ (z - 1 - k) := by
          rw [div_step hL, show z - 1 - (k + 1) + 1 = z - 1 - k by omega]
        obtain ⟨o1, o2⟩ := or7 (u := rq z w (k + 1)) (by omega) hu
        have F3 : qfr 195 195 s (uE s2 195 (k + 1) (nI (e (rq z w (k + 1))))) := F2.uE (by omega)
        have nx : ∀ is', is' < 2 → (is' = 1 ↔ (is = 1 ∧ ¬ btn u (rq z w (k + 1)))) → ∀ L8, qW X PR (d - 1) (some .boolean) cd_Model_findRing 6 [some (.ref (163)), some (.int (nI z)), some (.int (nI (z ^ (z - 1)))), some (.int (nI w)), some (.int (nI (L / z))), some (.int (nI (u ||| 2 ^ rq z w (k + 1)))), some (.int (nI is')), some (.int (nI k)), L8] [] (uE s2 195 (k + 1) (nI (e (rq z w (k + 1))))) Q := by
          intro is' h1 h2 L8
          refine ih (L / z) is' _ _ L8 (by omega) hL2 h1 o2 (fun y hy => ?_) ?_ F3 (by rw [qE_uEk (by omega)]; exact g0) (fun b hb1 hb2 => ?_)
          · rw [btn_or, hub y hy]
            constructor
            · rintro ((q | ⟨b, q1, q2, q3⟩) | q)
              · exact Or.inl q
              · exact Or.inr ⟨b, by omega, q2, q3⟩
              · exact Or.inr ⟨k + 1, by omega, hkz, q⟩
            · rintro (q | ⟨b, q1, q2, q3⟩)
              · exact Or.inl (Or.inl q)
              · by_cases eb : b = k + 1
                · subst eb; exact Or.inr q3
                · exact Or.inl (Or.inr ⟨b, by omega, q2, q3⟩)
          · rw [h2, hiff, hub _ (by omega)]
            constructor
            · rintro ⟨q1, q2⟩ a b ha hab hb hkb
              by_cases eb : b = k + 1
              · subst eb
                intro hq
                have ha0 : a = 0 := by omega
                subst ha0
                exact q2 (Or.inl hq.symm)
              · by_cases ea : a = k + 1
                · subst ea
                  exact fun hq => q2 (Or.inr ⟨b, by omega, hb, hq.symm⟩)
                · exact q1 a b (by omega) hab hb (by omega)
            · intro q
              refine ⟨fun a b ha hab hb hkb => q a b (by omega) hab hb (by omega), ?_⟩
              rintro (r | ⟨b, r1, r2, r3⟩)
              · exact q 0 (k + 1) (Or.inl rfl) (by omega) hkz (by omega) r.symm
              · exact q (k + 1) b (by omega) r1 r2 (by omega) r3.symm
          · by_cases eb : b = k + 1
            · subst eb; rw [qE_uEs]
            · rw [qE_uEk eb]; exact g2 b (by omega) hb2
        have e194 : qE s2 194 (rq z w (k + 1)) = nI (e (rq z w (k + 1))) := (F2.e (by omega)).trans (h1 _ hdz)
        have hv3 : nI (k + 1) + Int32.ofInt (-1) = nI k := by rw [dec_eq, nI_dec]
        rcases (show is = 0 ∨ is = 1 by omega) with h | h
        · subst h
          refine qW.blk rfl ?_
          refine qv_iload rfl ?_
          refine qv_if_leNf rfl (by omega) (by omega) (nx := 7) rfl ?_
          refine qW.blk rfl ?_
          refine qv_iload rfl ?_
          refine qv_iload rfl ?_
          refine qv_iremN rfl rfl (by omega) (by omega) (by omega) ?_
          refine qv_top (congrArg nI hd) ?_
          refine qv_istore (L' := [_, _, _, _, _, _, _, _, _]) rfl ?_
          refine qv_iload rfl ?_
          refine qv_iload rfl ?_
          refine qv_idivN rfl rfl (by omega) (by omega) (by omega) ?_
          refine qv_istore (L' := [_, _, _, _, _, _, _, _, _]) rfl ?_
          refine qv_iload rfl ?_
          refine qv_if_eq_t (rfl) (tgt := 10) rfl ?_
          refine qW.blk rfl ?_
          refine qv_iconst (v := 0) rfl ?_
          refine qv_nil (nx := 11) rfl ?_
          refine qW.blk rfl ?_
          refine qv_istore (L' := [_, _, _, _, _, _, _, _, _]) rfl ?_
          refine qv_iload rfl ?_
          refine qv_iconst (v := 1) rfl ?_
          refine qv_iload rfl ?_
          refine qv_ishl ?_
          refine qv_ior ?_
          refine qv_top (o1) ?_
          refine qv_istore (L' := [_, _, _, _, _, _, _, _, _]) rfl ?_
          refine qv_aload rfl ?_
          refine qv_gr ly_163 ⟨rfl, rfl, rfl⟩ (by omega) ?_
          refine qv_iload rfl ?_
          refine qv_aload rfl ?_
          refine qv_gr ly_163 ⟨rfl, rfl, rfl⟩ (by omega) ?_
          refine qv_iload rfl ?_
          refine qv_ia ly_194 rfl (by omega) (by decide) (e194) ?_
          refine qv_is ly_195 rfl (by omega) (by decide) ?_
          refine qv_iinc (L' := [_, _, _, _, _, _, _, _, _]) rfl (hv3) rfl ?_
          refine qv_goto (tgt := 6) rfl ?_
          exact nx 0 (by omega) ⟨fun q => absurd q (by decide), fun q => absurd q.1 (by decide)⟩ _
        · subst h
          by_cases hb : btn u (rq z w (k + 1))
          · refine qW.blk rfl ?_
            refine qv_iload rfl ?_
            refine qv_if_leNf rfl (by omega) (by omega) (nx := 7) rfl ?_
            refine qW.blk rfl ?_
            refine qv_iload rfl ?_
            refine qv_iload rfl ?_
            refine qv_iremN rfl rfl (by omega) (by omega) (by omega) ?_
            refine qv_top (congrArg nI hd) ?_
            refine qv_istore (L' := [_, _, _, _, _, _, _, _, _]) rfl ?_
            refine qv_iload rfl ?_
            refine qv_iload rfl ?_
            refine qv_idivN rfl rfl (by omega) (by omega) (by omega) ?_
            refine qv_istore (L' := [_, _, _, _, _, _, _, _, _]) rfl ?_
            refine qv_iload rfl ?_
            refine qv_if_eq_f (by decide) (nx := 8) rfl ?_
            refine qW.blk rfl ?_
            refine qv_iload rfl ?_
            refine qv_iload rfl ?_
            refine qv_ishr ?_
            refine qv_iconst (v := 1) rfl ?_
            refine qv_iand ?_
            refine qv_if_ne_t (fun q => (bit_is0 (by omega) (by omega)).mp q hb) (tgt := 10) rfl ?_
            refine qW.blk rfl ?_
            refine qv_iconst (v := 0) rfl ?_
            refine qv_nil (nx := 11) rfl ?_
            refine qW.blk rfl ?_
            refine qv_istore (L' := [_, _, _, _, _, _, _, _, _]) rfl ?_
            refine qv_iload rfl ?_
            refine qv_iconst (v := 1) rfl ?_
            refine qv_iload rfl ?_
            refine qv_ishl ?_
            refine qv_ior ?_
            refine qv_top (o1) ?_
            refine qv_istore (L' := [_, _, _, _, _, _, _, _, _]) rfl ?_
            refine qv_aload rfl ?_
            refine qv_gr ly_163 ⟨rfl, rfl, rfl⟩ (by omega) ?_
            refine qv_iload rfl ?_
            refine qv_aload rfl ?_
            refine qv_gr ly_163 ⟨rfl, rfl, rfl⟩ (by omega) ?_
            refine qv_iload rfl ?_
            refine qv_ia ly_194 rfl (by omega) (by decide) (e194) ?_
            refine qv_is ly_195 rfl (by omega) (by decide) ?_
            refine qv_iinc (L' := [_, _, _, _, _, _, _, _, _]) rfl (hv3) rfl ?_
            refine qv_goto (tgt := 6) rfl ?_
            exact nx 0 (by omega) ⟨fun q => absurd q (by decide), fun q => absurd hb q.2⟩ _
          · refine qW.blk rfl ?_
            refine qv_iload rfl ?_
            refine qv_if_leNf rfl (by omega) (by omega) (nx := 7) rfl ?_
            refine qW.blk rfl ?_
            refine qv_iload rfl ?_
            refine qv_iload rfl ?_
            refine qv_iremN rfl rfl (by omega) (by omega) (by omega) ?_
            refine qv_top (congrArg nI hd) ?_
            refine qv_istore (L' := [_, _, _, _, _, _, _, _, _]) rfl ?_
            refine qv_iload rfl ?_
            refine qv_iload rfl ?_
            refine qv_idivN rfl rfl (by omega) (by omega) (by omega) ?_
            refine qv_istore (L' := [_, _, _, _, _, _, _, _, _]) rfl ?_
            refine qv_iload rfl ?_
            refine qv_if_eq_f (by decide) (nx := 8) rfl ?_
            refine qW.blk rfl ?_
            refine qv_iload rfl ?_
            refine qv_iload rfl ?_
            refine qv_ishr ?_
            refine qv_iconst (v := 1) rfl ?_
            refine qv_iand ?_
            refine qv_if_ne_f (fun q => q ((bit_is0 (by omega) (by omega)).mpr hb)) (nx := 9) rfl ?_
            refine qW.blk rfl ?_
            refine qv_iconst (v := 1) rfl ?_
            refine qv_goto (tgt := 11) rfl ?_
            refine qW.blk rfl ?_
            refine qv_istore (L' := [_, _, _, _, _, _, _, _, _]) rfl ?_
            refine qv_iload rfl ?_
            refine qv_iconst (v := 1) rfl ?_
            refine qv_iload rfl ?_
            refine qv_ishl ?_
            refine qv_ior ?_
            refine qv_top (o1) ?_
            refine qv_istore (L' := [_, _, _, _, _, _, _, _, _]) rfl ?_
            refine qv_aload rfl ?_
            refine qv_gr ly_163 ⟨rfl, rfl, rfl⟩ (by omega) ?_
            refine qv_iload rfl ?_
            refine qv_aload rfl ?_
            refine qv_gr ly_163 ⟨rfl, rfl, rfl⟩ (by omega) ?_
            refine qv_iload rfl ?_
            refine qv_ia ly_194 rfl (by omega) (by decide) (e194) ?_
            refine qv_is ly_195 rfl (by omega) (by decide) ?_
            refine qv_iinc (L' := [_, _, _, _, _, _, _, _, _]) rfl (hv3) rfl ?_
            refine qv_goto (tgt := 6) rfl ?_
            exact nx 1 (by omega) ⟨fun _ => ⟨rfl, hb⟩, fun _ => rfl⟩ _
    refine qW.blk rfl ?_
    refine qv_iload rfl ?_
    refine qv_iload rfl ?_
    refine qv_icmp_geNf rfl rfl (by omega) (by omega) (by omega) (nx := 5) rfl ?_
    refine qW.blk rfl ?_
    refine qv_iload rfl ?_
    refine qv_istore (L' := [_, _, _, _, _, _, _, _, _]) rfl ?_
    refine qv_iconst (v := 1) rfl ?_
    refine qv_istore (L' := [_, _, _, _, _, _, _, _, _]) rfl ?_
    refine qv_iconst (v := 1) rfl ?_
    refine qv_istore (L' := [_, _, _, _, _, _, _, _, _]) rfl ?_
    refine qv_aload rfl ?_
    refine qv_gr ly_163 ⟨rfl, rfl, rfl⟩ (by omega) ?_
    refine qv_iconst (v := 0) rfl ?_
    refine qv_aload rfl ?_
    refine qv_gr ly_163 ⟨rfl, rfl, rfl⟩ (by omega) ?_
    refine qv_iconst (v := 0) rfl ?_
    refine qv_ia (j := 0) ly_194 rfl (by omega) (by decide) ((F1.e (by omega)).trans (h1 0 (by omega))) ?_
    refine qv_is (j := 0) ly_195 rfl (by omega) (by decide) ?_
    refine qv_iload rfl ?_
    refine qv_iconst (v := 1) rfl ?_
    refine qv_isubN (q := 1) rfl rfl (by omega) ?_
    refine qv_istore (L' := [_, _, _, _, _, _, _, _, _]) rfl ?_
    refine qv_nil (nx := 6) rfl ?_
    refine digs (z - 1) w 1 1 _ _ (by omega) (by rw [Nat.sub_self, Nat.pow_zero, Nat.div_one]) (by omega) (by omega) (fun y hy => ?_) ⟨fun _ a b _ _ hb hkb => by omega, fun _ => rfl⟩ (F1.uE (by omega)) qE_uEs (fun b h1 h2 => by omega)
    rw [show (1 : Nat) = 2 ^ 0 from rfl, pow_btn]
    constructor
    · exact fun q => Or.inl q.symm
    · rintro (q | ⟨b, q1, q2, _⟩)
      · exact q.symm
      · omega
  have main : ∀ (c w : Nat) (s1 : QST) (L4 L5 L6 L7 L8 : Option Value), w + c = z ^ (z - 1) → qfr 195 195 s s1 → (∀ w', w' < w → ¬ rgood W z e w') → qW X PR (d - 1) (some .boolean) cd_Model_findRing 4 [some (.ref (163)), some (.int (nI z)), some (.int (nI (z ^ (z - 1)))), some (.int (nI w)), L4, L5, L6, L7, L8] [] s1 Q := by
    intro c
    induction c with
    | zero =>
      intro w s1 L4 L5 L6 L7 L8 hw F1 hno
      have e : w = z ^ (z - 1) := by omega
      have ev : v = 0 := by
        rcases hr with ⟨w0, h1, h2, -⟩ | ⟨-, h2⟩
        · exact absurd h2 (hno w0 (by omega))
        · exact h2
      rw [ev] at hk
      refine qW.blk rfl ?_
      refine qv_iload rfl ?_
      refine qv_iload rfl ?_
      refine qv_icmp_geNt rfl rfl (by omega) (by omega) (by omega) (tgt := 19) rfl ?_
      refine qW.blk rfl ?_
      refine qv_iconst (v := 0) rfl ?_
      refine qv_iret (by first | exact bI_ret | rfl) ?_
      exact hk s1 F1 (fun q => absurd q (by decide))
    | succ c ih =>
      intro w s1 L4 L5 L6 L7 L8 hw F1 hno
      refine body w (by omega) s1 _ _ _ _ _ F1 (fun hg s2 F2 g2 => ?_) (fun hg s2 L4 L5 L6 L7 L8 F2 => ?_)
      · rcases hr with ⟨w0, r1, r2, r3, r4, r5⟩ | ⟨q, -⟩
        · have : w0 = w := by
            rcases Nat.lt_trichotomy w0 w with t | t | t
            · exact absurd r2 (hno w0 t)
            · exact t
            · exact absurd hg (r4 w t)
          subst this
          rw [r5] at hk
          exact hk s2 F2 (fun _ j hj => by rw [g2 j hj, r3 j hj])
        · exact absurd hg (q w)
      · refine qW.blk rfl ?_
        refine qv_iinc (L' := [_, _, _, _, _, _, _, _, _]) rfl (nI_succ _).symm rfl ?_
        refine qv_goto (tgt := 4) rfl ?_
        refine ih (w + 1) s2 _ _ _ _ _ (by omega) F2 (fun w' hw' => ?_)
        by_cases ew : w' = w
        · subst ew; exact hg
        · exact hno w' (by omega)
  have ways : ∀ (c i : Nat) (L4 L5 L6 L7 L8 : Option Value), i + 1 + c = z → qW X PR (d - 1) (some .boolean) cd_Model_findRing 1 [some (.ref (163)), some (.int (nI z)), some (.int (nI (z ^ i))), some (.int (nI (i + 1))), L4, L5, L6, L7, L8] [] s Q := by
    intro c
    induction c with
    | zero =>
      intro i L4 L5 L6 L7 L8 hi
      have e : i = z - 1 := by omega
      subst e
      refine qW.blk rfl ?_
      refine qv_iload rfl ?_
      refine qv_iload rfl ?_
      refine qv_icmp_geNt rfl rfl (by omega) (by omega) (by omega) (tgt := 3) rfl ?_
      refine qW.blk rfl ?_
      refine qv_iconst (v := 0) rfl ?_
      refine qv_istore (L' := [_, _, _, _, _, _, _, _, _]) rfl ?_
      refine qv_nil (nx := 4) rfl ?_
      exact main _ 0 s _ _ _ _ _ (Nat.zero_add _) (qfr.rf s) (fun w' h => absurd h (Nat.not_lt_zero _))
    | succ c ih =>
      intro i L4 L5 L6 L7 L8 hi
      have nx := ih (i + 1) L4 L5 L6 L7 L8 (by omega)
      refine qW.blk rfl ?_
      refine qv_iload rfl ?_
      refine qv_iload rfl ?_
      refine qv_icmp_geNf rfl rfl (by omega) (by omega) (by omega) (nx := 2) rfl ?_
      refine qW.blk rfl ?_
      refine qv_iload rfl ?_
      refine qv_iload rfl ?_
      refine qv_imulN rfl rfl ?_
      refine qv_istore (L' := [_, _, _, _, _, _, _, _, _]) rfl ?_
      refine qv_iinc (L' := [_, _, _, _, _, _, _, _, _]) rfl (nI_succ _).symm rfl ?_
      refine qv_goto (tgt := 1) rfl ?_
      exact nx
  refine qW.blk rfl ?_
  refine qv_iconst (v := 1) rfl ?_
  refine qv_istore (L' := [_, _, _, _, _, _, _, _, _]) rfl ?_
  refine qv_iconst (v := 1) rfl ?_
  refine qv_istore (L' := [_, _, _, _, _, _, _, _, _]) rfl ?_
  refine qv_nil (nx := 1) rfl ?_
  exact ways (z - 1) 0 _ _ _ _ _ (by omega)
end
