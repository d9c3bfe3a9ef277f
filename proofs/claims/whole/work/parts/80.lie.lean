/-! falseVote is alike -/
theorem wLie_ok {W : VW} {p l : Nat} {f : Nat → Int32} (h : vok W p) : vok (wLie W l f) p := h
theorem rview_lie {s : QST} {C : Nat → Nat} (h' : rC s 164 C) (hC : CB C) (hn : rne s 31) {l : Nat} (hl : l < 9) (i31 : qF s 163 31 = nI l) {f : Nat → Int32} (hf : ∀ e, e < 7 → qE s 182 e = f e) : rview s (C 2) (wLie (cvw C) l f) := by
  obtain ⟨n1, n2, n3, n4, n5, n6⟩ := hn
  have hM := hC.2.2.2.1
  have i33 : qF s 163 33 = nI 0 := n5 (by decide)
  have i29 : qF s 163 29 = nI 0 := n2 (by decide)
  have i30 : qF s 163 30 = nI 0 := n3 (by decide)
  have i35 := n6 (by decide)
  have ek : ∀ m, m < C 2 → v_kin (qF s 163) (fun j => qE s (164 + j)) m = nI (C (10 + m)) := fun m hm => by
    rw [v_kin_0 h' (n1 (by decide)) i33 i29 (by decide) (by decide) (by omega), if_neg (btn0 m), if_neg (btn0 m)]
  refine ⟨rvw_of h' hC i35 rfl rfl (fun m hm => ek m hm) (fun m hm => rfl) (fun m hm => ?_) (fun m hm => rfl) (fun m hm => ?_) (fun m e hm he => ?_), v_ok_C h' hM i35, fun m hm hk2 => ?_⟩
  · rw [v_par_0 h' i33 (by decide) (by omega), if_neg (btn0 m)]; rfl
  · rw [v_end_0 h' i33 (by decide) (by omega), if_neg (btn0 m)]; rfl
  · rw [v_wis_0 h' i35 i30 (by decide) (by omega) he, i31, if_neg (btn0 m), hf e he]
    show (if nI m = nI l then f e else nI (C (60 + 7 * m + e))) = (if m = l then f e else nI (C (60 + 7 * m + e)))
    by_cases e1 : m = l
    · rw [if_pos e1, if_pos (congrArg nI e1)]
    · rw [if_neg e1, if_neg (fun z => e1 ((nI_eq (by omega) (by omega)).mp z))]
  · rw [ek m hm] at hk2
    exact ⟨C (30 + m), hC.some6 hm hk2, h' _ (by omega)⟩
/-- seat l tells f, or its own again -/
theorem hm.lie {s s' : QST} {C : Nat → Nat} {p l : Nat} {f : Nat → Int32} (h : hmB s (cvw C) p ∧ ∀ m, m < C 2 → qF s (84 + 3 * m) 1 = nI (C (10 + m)) ∧ qF s (84 + 3 * m) 3 = nI (C (30 + m)) ∧ qF s (84 + 3 * m) 4 = nI (C (40 + m))) (F : qfr (84 + 3 * l + 1) (84 + 3 * l + 1) s s') (hl : l < C 2) (hf : ∀ e, e < 7 → qE s' (84 + 3 * l + 1) e = f e) : hm s' (wLie (cvw C) l f) p := by
  obtain ⟨⟨h1, h2, h3, h4⟩, h5⟩ := h
  refine ⟨by rw [F.f (by omega)]; exact h1, by rw [F.f (by omega)]; exact h2, by rw [F.f (by omega)]; exact h3, fun m hm => ?_⟩
  have hm' : m < C 2 := hm
  obtain ⟨a1, a2, a3⟩ := h5 m hm'
  refine ⟨by rw [F.f (by omega)]; exact a1, by rw [F.f (by omega)]; exact (h4 m hm').1, by rw [F.f (by omega)]; exact a2, by rw [F.f (by omega)]; exact a3, fun e he => ?_⟩
  show _ = (if m = l then f e else nI (C (60 + 7 * m + e)))
  by_cases e1 : m = l
  · subst e1; rw [if_pos rfl]; exact hf e he
  · rw [if_neg e1, F.e (by omega)]; exact (h4 m hm').2 e he
theorem hm.k {s : QST} {C : Nat → Nat} {p : Nat} (h : hm s (cvw C) p) : hmB s (cvw C) p ∧ ∀ m, m < C 2 → qF s (84 + 3 * m) 1 = nI (C (10 + m)) ∧ qF s (84 + 3 * m) 3 = nI (C (30 + m)) ∧ qF s (84 + 3 * m) 4 = nI (C (40 + m)) := ⟨h.b, fun m hm => ⟨(h.2.2.2 m hm).1, (h.2.2.2 m hm).2.2.1, (h.2.2.2 m hm).2.2.2.1⟩⟩
/-- the first that gains -/
def gains (C : Nat → Nat) (D : TD) (f : Nat → Int32) (m : Nat) : Prop := C (60 + 7 * m + (gval (wLie (cvw C) m f) D.2.1 (D.2.2.2.1 - 1)).2.1) < C (60 + 7 * m + (gval (cvw C) D.2.1 (D.2.2.2.1 - 1)).2.1)
section
variable {X : pm_X} {PR : pm_P} {s : QST} {Q : QPost}
theorem w_firstGaining (hP : pm_np PR) {d : Nat} (hd : 8 ≤ d) {C : Nat → Nat} (hc : cC s 9 C) (hC : CB C) {D : TD} (hD : tdOK D) {T B m0 : Nat} (hT : cTD (qR s) T D) (hB : qLY B (0, 120, [])) (hB2 : 123 ≤ B) (hm0 : m0 ≤ C 2) (hall : ∀ j, j < m0 → ¬ gains C D (qE s B) j) (hlast : (m0 = C 2 ∧ ∀ s', qfr 74 110 s s' → Q (some (.int (-4))) s') ∨ (m0 < C 2 ∧ gains C D (qE s B) m0 ∧ ∀ s', qfr 74 110 s s' → Q (some (.int (nI m0))) s')) : qP X PR d 76 [.ref 115, .ref T, .ref B] s Q := by
  have hM := hC.2.2.2.1
  obtain ⟨hon, hhon⟩ : ∃ hon, (gval (cvw C) D.2.1 (D.2.2.2.1 - 1)).2.1 = hon := ⟨_, rfl⟩
  have hh7 : hon < 7 := by rw [← hhon]; exact (gval_lt hD (cvw_ok5 hC).u).1
  refine qP.of (L := [_, _, _, _, _, _, _]) (by omega) (hP _ rfl) ms_Plots_firstGaining rfl ?_
  show qW X PR (d - 1) (some .int) cd_Plots_firstGaining 0 _ _ _ _
  have loop : ∀ (p : Nat), vok (cvw C) p → ∀ (c m : Nat) (s1 : QST) (L5 L6 : Option Value), m + c = m0 → qfr 74 110 s s1 → hm s1 (cvw C) p → qW X PR (d - 1) (some .int) cd_Plots_firstGaining 1 [some (.ref (115)), some (.ref (T)), some (.ref (B)), some (.int (nI hon)), some (.int (nI m)), L5, L6] [] s1 Q := by
    intro p vp c
    -- one member
    have body : ∀ (m : Nat) (s1 : QST) (L5 L6 : Option Value), m < C 2 → qfr 74 110 s s1 → hm s1 (cvw C) p → (∀ s4 (L5 L6 : Option Value), qfr 74 110 s s4 → hm s4 (cvw C) p → ¬ gains C D (qE s B) m → qW X PR (d - 1) (some .int) cd_Plots_firstGaining 4 [some (.ref (115)), some (.ref (T)), some (.ref (B)), some (.int (nI hon)), some (.int (nI m)), L5, L6] [] s4 Q) → (gains C D (qE s B) m → ∀ s4 (L5 L6 : Option Value), qfr 74 110 s s4 → qW X PR (d - 1) (some .int) cd_Plots_firstGaining 3 [some (.ref (115)), some (.ref (T)), some (.ref (B)), some (.int (nI hon)), some (.int (nI m)), L5, L6] [] s4 Q) → qW X PR (d - 1) (some .int) cd_Plots_firstGaining 2 [some (.ref (115)), some (.ref (T)), some (.ref (B)), some (.int (nI hon)), some (.int (nI m)), L5, L6] [] s1 Q := by
      intro m s1 L5 L6 hm1 F1 m1 k4 k3
      obtain ⟨got, hgot⟩ : ∃ got, (gval (wLie (cvw C) m (qE s B)) D.2.1 (D.2.2.2.1 - 1)).2.1 = got := ⟨_, rfl⟩
      have hg7 : got < 7 := by rw [← hgot]; exact (gval_lt hD (wLie_ok (cvw_ok5 hC)).u).1
      have cm := hc.2.2.2.2 m hm1
      have w9 := (hC.2.2.2.2.2 m hm1).2.2.2.2.2.2
      have fin : ∀ s2 s3 s4, qfr (84 + 3 * m + 1) (84 + 3 * m + 1) s1 s2 → (∀ e, e < 7 → qE s2 (84 + 3 * m + 1) e = qE s1 B e) → qfr 76 82 s2 s3 → qfr (84 + 3 * m + 1) (84 + 3 * m + 1) s3 s4 → (∀ e, e < 7 → qE s4 (84 + 3 * m + 1) e = qE s3 (12 + 3 * m + 1) e) → qfr 74 110 s s4 ∧ hm s4 (cvw C) p ∧ ∀ e, e < 7 → qE s4 (12 + 3 * m + 1) e = nI (C (60 + 7 * m + e)) := by
        intro s2 s3 s4 F2 h2 F3 F4 h4
        have F := ((F1.trans (F2.mono (by omega) (by omega))).trans (F3.mono (by omega) (by omega))).trans (F4.mono (by omega) (by omega))
        have own : ∀ e, e < 7 → qE s4 (12 + 3 * m + 1) e = nI (C (60 + 7 * m + e)) := fun e he => (F.e (by omega)).trans (cm.2.2.2.2.2.2 e he).1
        refine ⟨F, ?_, own⟩
        have m2 := hm.lie (f := qE s B) m1.k F2 hm1 (fun e he => by rw [h2 e he, F1.e (by omega)])
        obtain ⟨q1, q2, q3, q4⟩ := m2
        refine ⟨by rw [F4.f (by omega), F3.f (by omega)]; exact q1, by rw [F4.f (by omega), F3.f (by omega)]; exact q2, by rw [F4.f (by omega), F3.f (by omega)]; exact q3, fun j hj => ?_⟩
        obtain ⟨a1, a2, a3, a4, a5⟩ := q4 j hj
        refine ⟨by rw [F4.f (by omega), F3.f (by omega)]; exact a1, by rw [F4.f (by omega), F3.f (by omega)]; exact a2, by rw [F4.f (by omega), F3.f (by omega)]; exact a3, by rw [F4.f (by omega), F3.f (by omega)]; exact a4, fun e he => ?_⟩
        by_cases ej : j = m
        · subst ej
          rw [h4 e he, ← F4.e (c := 12 + 3 * j + 1) (by omega)]
          exact own e he
        · have := a5 e he
          have e1 : gW (wLie (cvw C) m (qE s B)) j e = nI (C (60 + 7 * j + e)) := if_neg ej
          rw [e1] at this
          rw [F4.e (by omega), F3.e (by omega)]
          exact this
      refine qW.blk rfl ?_
      refine qv_aload rfl ?_
      refine qv_gr ly_115 ⟨rfl, rfl, rfl⟩ (by omega) ?_
      refine qv_gr ly_9 ⟨rfl, rfl, rfl⟩ (by omega) ?_
      refine qv_iload rfl ?_
      refine qv_aa (j := m) (r := 12 + 3 * m) ly_10 rfl (show _ < 9 by omega) (by decide) rfl ?_
      refine qv_gr (mb_now (m := m) (by omega)).1 ⟨rfl, rfl, rfl⟩ (by omega) ?_
      refine qv_astore (L' := [_, _, _, _, _, _, _]) rfl ?_
      refine qv_aload rfl ?_
      refine qv_gr ly_115 ⟨rfl, rfl, rfl⟩ (by omega) ?_
      refine qv_gr ly_74 ⟨rfl, rfl, rfl⟩ (by omega) ?_
      refine qv_iload rfl ?_
      refine qv_aa (j := m) (r := 84 + 3 * m) ly_75 rfl (show _ < 9 by omega) (by decide) rfl ?_
      refine qv_aload rfl ?_
      refine qv_virt ((mb_seat (m := m) (by omega)).1.rcv _) sg_Member_tellWishes rfl rfl (w_Member_tellWishes hP (by omega) (mb_seat (m := m) (by omega)) hB ⟨by decide, by decide⟩ (fun s2 F2 h2 => ?_))
      have m2 := hm.lie (f := qE s B) m1.k F2 hm1 (fun e he => by rw [h2 e he, F1.e (by omega)])
      refine qv_aload rfl ?_
      refine qv_gr ly_115 ⟨rfl, rfl, rfl⟩ (by omega) ?_
      refine qv_aload rfl ?_
      refine qv_virt (ly_74.rcv _) sg_Hall_settle rfl rfl (w_settleT hP (by omega) (m2.ok (wLie_ok vp)) hD (by rw [F2.R, F1.R]; exact hT) (tdE hD) (m2.ve (wLie_ok vp)) (fun s3 F3 h3 => ?_))
      rw [hgot]
      refine qv_istore (L' := [_, _, _, _, _, _, _]) rfl ?_
      refine qv_aload rfl ?_
      refine qv_gr ly_115 ⟨rfl, rfl, rfl⟩ (by omega) ?_
      refine qv_gr ly_74 ⟨rfl, rfl, rfl⟩ (by omega) ?_
      refine qv_iload rfl ?_
      refine qv_aa (j := m) (r := 84 + 3 * m) ly_75 rfl (show _ < 9 by omega) (by decide) rfl ?_
      refine qv_aload rfl ?_
      refine qv_virt ((mb_seat (m := m) (by omega)).1.rcv _) sg_Member_tellWishes rfl rfl (w_Member_tellWishes hP (by omega) (mb_seat (m := m) (by omega)) (mb_now (m := m) (by omega)).2.1 ⟨by decide, by decide⟩ (fun s4 F4 h4 => ?_))
      obtain ⟨F, m4, own⟩ := fin s2 s3 s4 F2 h2 F3 F4 h4
      refine qv_aload rfl ?_
      refine qv_iload rfl ?_
      refine qv_ia (mb_now (m := m) (by omega)).2.1 rfl hg7 (by decide) (own got hg7) ?_
      refine qv_aload rfl ?_
      refine qv_iload rfl ?_
      refine qv_ia (mb_now (m := m) (by omega)).2.1 rfl hh7 (by decide) (own hon hh7) ?_
      have b1 := (w9 got hg7).1
      have b2 := (w9 hon hh7).1
      by_cases hg : gains C D (qE s B) m
      · have hg' := hg
        unfold gains at hg'
        rw [hgot, hhon] at hg'
        refine qv_icmp_geNf rfl rfl (by omega) (by omega) (by omega) (nx := 3) rfl ?_
        exact k3 hg s4 _ _ F
      · have hg' := hg
        unfold gains at hg'
        rw [hgot, hhon] at hg'
        refine qv_icmp_geNt rfl rfl (by omega) (by omega) (by omega) (tgt := 4) rfl ?_
        exact k4 s4 _ _ F m4 hg
    induction c with
    | zero =>
      intro m s1 L5 L6 hm F1 m1
      have e : m = m0 := by omega
      subst e
      rcases hlast with ⟨h1, h2⟩ | ⟨h1, h2, h3⟩
      · subst h1
        refine qW.blk rfl ?_
        refine qv_iload rfl ?_
        refine qv_aload rfl ?_
        refine qv_gr ly_115 ⟨rfl, rfl, rfl⟩ (by omega) ?_
        refine qv_gi ly_9 ⟨rfl, rfl, rfl⟩ ((F1.f (by omega)).trans hc.2.2.1) ?_
        refine qv_icmp_geNt rfl rfl (by omega) (by omega) (by omega) (tgt := 5) rfl ?_
        refine qW.blk rfl ?_
        refine qv_iconst (v := (-4)) rfl ?_
        refine qv_iret (rfl) ?_
        exact h2 s1 F1
      · refine qW.blk rfl ?_
        refine qv_iload rfl ?_
        refine qv_aload rfl ?_
        refine qv_gr ly_115 ⟨rfl, rfl, rfl⟩ (by omega) ?_
        refine qv_gi ly_9 ⟨rfl, rfl, rfl⟩ ((F1.f (by omega)).trans hc.2.2.1) ?_
        refine qv_icmp_geNf rfl rfl (by omega) (by omega) (by omega) (nx := 2) rfl ?_
        refine body m s1 _ _ h1 F1 m1 (fun s4 L5 L6 _ _ hn => absurd h2 hn) (fun _ s4 L5 L6 F4 => ?_)
        refine qW.blk rfl ?_
        refine qv_iload rfl ?_
        refine qv_iret (rfl) ?_
        exact h3 s4 F4
    | succ c ih =>
      intro m s1 L5 L6 hm F1 m1
      refine qW.blk rfl ?_
      refine qv_iload rfl ?_
      refine qv_aload rfl ?_
      refine qv_gr ly_115 ⟨rfl, rfl, rfl⟩ (by omega) ?_
      refine qv_gi ly_9 ⟨rfl, rfl, rfl⟩ ((F1.f (by omega)).trans hc.2.2.1) ?_
      refine qv_icmp_geNf rfl rfl (by omega) (by omega) (by omega) (nx := 2) rfl ?_
      refine body m s1 _ _ (by omega) F1 m1 (fun s4 L5 L6 F4 m4 _ => ?_) (fun hg => absurd hg (hall m (by omega)))
      refine qW.blk rfl ?_
      refine qv_iinc (L' := [_, _, _, _, _, _, _]) rfl (nI_succ _).symm rfl ?_
      refine qv_goto (tgt := 1) rfl ?_
      exact ih (m + 1) s4 _ _ (by omega) F4 m4
  refine qW.blk rfl ?_
  refine qv_aload rfl ?_
  refine qv_gr ly_115 ⟨rfl, rfl, rfl⟩ (by omega) ?_
  refine qv_aload rfl ?_
  refine qv_gr ly_115 ⟨rfl, rfl, rfl⟩ (by omega) ?_
  refine qv_virt (ly_74.rcv _) sg_Hall_seat rfl rfl (w_Hall_seat hP (by omega) hc hC (fun s1 p F1 m1 v1 => ?_)) 
  refine qv_aload rfl ?_
  refine qv_gr ly_115 ⟨rfl, rfl, rfl⟩ (by omega) ?_
  refine qv_aload rfl ?_
  refine qv_virt (ly_74.rcv _) sg_Hall_settle rfl rfl (w_settleT hP (by omega) (m1.ok v1) hD (by rw [F1.R]; exact hT) (tdE hD) (m1.ve v1) (fun s2 F2 h2 => ?_)) 
  refine qv_top (congrArg nI hhon) ?_
  refine qv_istore (L' := [_, _, _, _, _, _, _]) rfl ?_
  refine qv_iconst (v := 0) rfl ?_
  refine qv_istore (L' := [_, _, _, _, _, _, _]) rfl ?_
  refine qv_nil (nx := 1) rfl ?_
  exact loop p v1 m0 0 s2 _ _ (by omega) (F1.trans (F2.mono (by omega) (by omega))) (m1.fr F2 (by omega) v1.1)
end
