/-! tell, boughtOff are alike -/
def wMk (W : VW) (x k e : Nat) : VW := (gN W, gC W, fun m => if btn x m then nI k else gK W m, gV W, fun m => if btn x m then 0 else gP W m, fun m => if btn x m then 0 else gU W m, fun m => if btn x m then nI e else gE W m, gW W)
/-- the hall's seats but for kind, number, end -/
def hmB (s : QST) (W : VW) (p : Nat) : Prop := qF s 74 0 = nI (gN W) ∧ qF s 74 1 = gC W ∧ qF s 74 2 = nI p ∧ ∀ m, m < gN W → qF s (84 + 3 * m) 2 = gV W m ∧ ∀ e, e < 7 → qE s (84 + 3 * m + 1) e = gW W m e
theorem hm.b {s : QST} {W : VW} {p : Nat} (h : hm s W p) : hmB s W p := ⟨h.1, h.2.1, h.2.2.1, fun m hm => ⟨(h.2.2.2 m hm).2.1, (h.2.2.2 m hm).2.2.2.2⟩⟩
theorem hmB.fr {s s' : QST} {W : VW} {p : Nat} (h : hmB s W p) (F : qfr 76 82 s s') : hmB s' W p := by
  obtain ⟨h1, h2, h3, h4⟩ := h
  refine ⟨by rw [F.f (by omega)]; exact h1, by rw [F.f (by omega)]; exact h2, by rw [F.f (by omega)]; exact h3, fun m hm => ?_⟩
  rw [F.F (c := 84 + 3 * m) (by omega), F.E (c := 84 + 3 * m + 1) (by omega)]
  exact h4 m hm
theorem wMk_ok {W : VW} {p x k e : Nat} (h : vok W p) (hk : k = 1 ∨ k = 4) : vok (wMk W x k e) p := by
  obtain ⟨v1, v2, v3⟩ := h
  refine ⟨v1, v2, fun m hm => ?_⟩
  obtain ⟨w1, w2, w3, w4⟩ := v3 m hm
  by_cases hb : btn x m
  · have e1 : gK (wMk W x k e) m = nI k := if_pos hb
    have e2 : gP (wMk W x k e) m = 0 := if_pos hb
    have e3 : gU (wMk W x k e) m = 0 := if_pos hb
    rw [e1, e2, e3]
    refine ⟨⟨k, by omega, rfl⟩, w2, fun _ => ⟨0, by omega, rfl⟩, fun _ => ⟨rfl, by omega⟩⟩
  · have e1 : gK (wMk W x k e) m = gK W m := if_neg hb
    have e2 : gP (wMk W x k e) m = gP W m := if_neg hb
    have e3 : gU (wMk W x k e) m = gU W m := if_neg hb
    rw [e1, e2, e3]
    exact ⟨w1, w2, w3, w4⟩
theorem veq_deep {D : Nat → Prop} {W : VW} {x e : Nat} : veq D (wDeep W x) (wMk W x 1 e) := by
  refine ⟨rfl, rfl, fun m hm => ⟨?_, rfl, fun z => ?_, fun z => ?_, fun z => ?_, fun _ _ _ _ => rfl⟩⟩
  · show (if btn x m then (1 : Int32) else _) = (if btn x m then nI 1 else _)
    rfl
  · have hb : ¬ btn x m := fun hb => by
      have e1 : gK (wDeep W x) m = 1 := if_pos hb
      rw [e1] at z
      exact z.elim (by decide) (by decide)
    exact (if_neg hb).symm
  · have hb : ¬ btn x m := fun hb => by
      have e1 : gK (wDeep W x) m = 1 := if_pos hb
      rw [e1] at z
      exact absurd z (by decide)
    exact (if_neg hb).symm
  · have hb : ¬ btn x m := fun hb => by
      have e1 : gK (wDeep W x) m = 1 := if_pos hb
      rw [e1] at z
      exact absurd z (by decide)
    exact (if_neg hb).symm
theorem veq_buy {D : Nat → Prop} {W : VW} {x e : Nat} : veq D (wBuy W x e) (wMk W x 4 e) := by
  refine ⟨rfl, rfl, fun m hm => ⟨?_, rfl, fun _ => rfl, fun z => ?_, fun z => rfl, fun _ _ _ _ => rfl⟩⟩
  · show (if btn x m then (4 : Int32) else _) = (if btn x m then nI 4 else _)
    rfl
  · have hb : ¬ btn x m := fun hb => by
      have e1 : gK (wBuy W x e) m = 4 := if_pos hb
      rw [e1] at z
      exact absurd z (by decide)
    exact (if_neg hb).symm
theorem wDeep_u {W : VW} {x : Nat} (h : ∀ m, m < gN W → gK W m = 2 → gU W m < 6) : ∀ m, m < gN (wDeep W x) → gK (wDeep W x) m = 2 → gU (wDeep W x) m < 6 := by
  intro m hm hk
  refine h m hm ?_
  by_cases hb : btn x m
  · have e1 : gK (wDeep W x) m = 1 := if_pos hb
    rw [e1] at hk
    exact absurd hk (by decide)
  · have e1 : gK (wDeep W x) m = gK W m := if_neg hb
    rw [← e1]; exact hk
theorem wBuy_u {W : VW} {x e : Nat} (h : ∀ m, m < gN W → gK W m = 2 → gU W m < 6) : ∀ m, m < gN (wBuy W x e) → gK (wBuy W x e) m = 2 → gU (wBuy W x e) m < 6 := by
  intro m hm hk
  refine h m hm ?_
  by_cases hb : btn x m
  · have e1 : gK (wBuy W x e) m = 4 := if_pos hb
    rw [e1] at hk
    exact absurd hk (by decide)
  · have e1 : gK (wBuy W x e) m = gK W m := if_neg hb
    rw [← e1]; exact hk
theorem CB.some6 {C : Nat → Nat} (hC : CB C) {m : Nat} (hm : m < C 2) (hk : nI (C (10 + m)) = 2) : C (30 + m) < 6 := by
  have hk2 := (nI_eq (a := C (10 + m)) (b := 2) (by have := (hC.2.2.2.2.2 m hm).1; omega) (by omega)).mp hk
  have c4 := (hC.2.2.2.2.2 m hm).2.2.2.1
  unfold mostN at c4
  rw [if_pos hk2] at c4
  omega
theorem rview_deep {s : QST} {C : Nat → Nat} (h' : rC s 164 C) (hC : CB C) (hn : rne s 29) {x : Nat} (hx : x < 512) (i29 : qF s 163 29 = nI x) : rview s (C 2) (wDeep (cvw C) x) := by
  obtain ⟨n1, n2, n3, n4, n5, n6⟩ := hn
  have hM := hC.2.2.2.1
  have i33 : qF s 163 33 = nI 0 := n5 (by decide)
  have i30 : qF s 163 30 = nI 0 := n3 (by decide)
  have i31 := n4 (by decide)
  have i35 := n6 (by decide)
  have ek : ∀ m, m < C 2 → v_kin (qF s 163) (fun j => qE s (164 + j)) m = if btn x m then 1 else nI (C (10 + m)) := fun m hm => by
    rw [v_kin_0 h' (n1 (by decide)) i33 i29 (by decide) hx (by omega), if_neg (btn0 m)]
  refine ⟨rvw_of h' hC i35 rfl rfl (fun m hm => ek m hm) (fun m hm => rfl) (fun m hm => ?_) (fun m hm => rfl) (fun m hm => ?_) (fun m e hm he => ?_), v_ok_C h' hM i35, fun m hm hk2 => ?_⟩
  · rw [v_par_0 h' i33 (by decide) (by omega), if_neg (btn0 m)]; rfl
  · rw [v_end_0 h' i33 (by decide) (by omega), if_neg (btn0 m)]; rfl
  · rw [v_wis_0 h' i35 i30 (by decide) (by omega) he, i31, if_neg (nI_ne_m1 (by omega)), if_neg (btn0 m)]; rfl
  · rw [ek m hm] at hk2
    by_cases hb : btn x m
    · rw [if_pos hb] at hk2; exact absurd hk2 (by decide)
    · rw [if_neg hb] at hk2
      exact ⟨C (30 + m), hC.some6 hm hk2, h' _ (by omega)⟩
theorem rview_buy {s : QST} {C : Nat → Nat} (h' : rC s 164 C) (hC : CB C) (hn : rne s 33) {x e : Nat} (hx : x < 512) (i33 : qF s 163 33 = nI x) (i34 : qF s 163 34 = nI e) : rview s (C 2) (wBuy (cvw C) x e) := by
  obtain ⟨n1, n2, n3, n4, n5, n6⟩ := hn
  have hM := hC.2.2.2.1
  have i29 : qF s 163 29 = nI 0 := n2 (by decide)
  have i30 : qF s 163 30 = nI 0 := n3 (by decide)
  have i31 := n4 (by decide)
  have i35 := n6 (by decide)
  have ek : ∀ m, m < C 2 → v_kin (qF s 163) (fun j => qE s (164 + j)) m = if btn x m then 4 else nI (C (10 + m)) := fun m hm => by
    rw [v_kin_0 h' (n1 (by decide)) i33 i29 hx (by decide) (by omega), if_neg (btn0 m)]
  refine ⟨rvw_of h' hC i35 rfl rfl (fun m hm => ek m hm) (fun m hm => rfl) (fun m hm => ?_) (fun m hm => rfl) (fun m hm => ?_) (fun m f hm he => ?_), v_ok_C h' hM i35, fun m hm hk2 => ?_⟩
  · rw [v_par_0 h' i33 hx (by omega)]; rfl
  · rw [v_end_0 h' i33 hx (by omega), i34]; rfl
  · rw [v_wis_0 h' i35 i30 (by decide) (by omega) he, i31, if_neg (nI_ne_m1 (by omega)), if_neg (btn0 m)]; rfl
  · rw [ek m hm] at hk2
    by_cases hb : btn x m
    · rw [if_pos hb] at hk2; exact absurd hk2 (by decide)
    · rw [if_neg hb] at hk2
      exact ⟨C (30 + m), hC.some6 hm hk2, h' _ (by omega)⟩
section
variable {X : pm_X} {PR : pm_P} {s : QST} {Q : QPost}
theorem w_makeOfKind (hP : pm_np PR) {d : Nat} (hd : 1 ≤ d) {C : Nat → Nat} (hc : cC s 9 C) (hC : CB C) {p x k e : Nat} (hx : x < 512) (hB : hmB s (cvw C) p) (hk : ∀ s', qfr 84 110 s s' → hm s' (wMk (cvw C) x k e) p → hmB s' (cvw C) p → Q none s') : qP X PR d 75 [.ref 115, .int (nI x), .int (nI k), .int (nI e)] s Q := by
  have hM := hC.2.2.2.1
  refine qP.of (L := [_, _, _, _, _, _, _, _]) (by omega) (hP _ rfl) ms_Plots_makeOfKind rfl ?_
  show qW X PR (d - 1) (none) cd_Plots_makeOfKind 0 _ _ _ _
  have loop : ∀ (c m : Nat) (s1 : QST) (L5 L6 L7 : Option Value), m + c = C 2 → qfr 84 110 s s1 → hmB s1 (cvw C) p → (∀ j, j < m → qF s1 (84 + 3 * j) 1 = gK (wMk (cvw C) x k e) j ∧ qF s1 (84 + 3 * j) 3 = gP (wMk (cvw C) x k e) j ∧ qF s1 (84 + 3 * j) 4 = gE (wMk (cvw C) x k e) j) → qW X PR (d - 1) (none) cd_Plots_makeOfKind 1 [some (.ref (115)), some (.int (nI x)), some (.int (nI k)), some (.int (nI e)), some (.int (nI m)), L5, L6, L7] [] s1 Q := by
    intro c
    induction c with
    | zero =>
      intro m s1 L5 L6 L7 hm F1 B1 g1
      have e' : m = C 2 := by omega
      subst e'
      refine qW.blk rfl ?_
      refine qv_iload rfl ?_
      refine qv_aload rfl ?_
      refine qv_gr ly_115 ⟨rfl, rfl, rfl⟩ (by omega) ?_
      refine qv_gi ly_9 ⟨rfl, rfl, rfl⟩ ((F1.f (by omega)).trans hc.2.2.1) ?_
      refine qv_icmp_geNt rfl rfl (by omega) (by omega) (by omega) (tgt := 15) rfl ?_
      refine qW.blk rfl ?_
      refine qv_ret rfl ?_
      exact hk s1 F1 ⟨B1.1, B1.2.1, B1.2.2.1, fun j hj => ⟨(g1 j hj).1, (B1.2.2.2 j hj).1, (g1 j hj).2.1, (g1 j hj).2.2, (B1.2.2.2 j hj).2⟩⟩ B1
    | succ c ih =>
      intro m s1 L5 L6 L7 hm F1 B1 g1
      have hmC : m < C 2 := by omega
      have cm := hc.2.2.2.2 m hmC
      have fin : ∀ (v1 v3 v4 : Int32) (L5 L6 L7 : Option Value), v1 = gK (wMk (cvw C) x k e) m → v3 = gP (wMk (cvw C) x k e) m → v4 = gE (wMk (cvw C) x k e) m → qW X PR (d - 1) (none) cd_Plots_makeOfKind 1 [some (.ref (115)), some (.int (nI x)), some (.int (nI k)), some (.int (nI e)), some (.int (nI (m + 1))), L5, L6, L7] [] ((uF (uF (uF s1 (84 + 3 * m) 1 v1) (84 + 3 * m) 3 v3) (84 + 3 * m) 4 v4)) Q := by
        intro v1 v3 v4 L5 L6 L7 h1 h3 h4
        subst h1; subst h3; subst h4
        refine ih (m + 1) _ L5 L6 L7 (by omega) (((F1.uF (by omega)).uF (by omega)).uF (by omega)) ⟨?_, ?_, ?_, fun j hj => ⟨?_, fun f hf => (B1.2.2.2 j hj).2 f hf⟩⟩ (fun j hj => ?_)
        · rw [qF_uFc (by omega), qF_uFc (by omega), qF_uFc (by omega)]; exact B1.1
        · rw [qF_uFc (by omega), qF_uFc (by omega), qF_uFc (by omega)]; exact B1.2.1
        · rw [qF_uFc (by omega), qF_uFc (by omega), qF_uFc (by omega)]; exact B1.2.2.1
        · rw [qF_uF, if_neg (by omega), qF_uF, if_neg (by omega), qF_uF, if_neg (by omega)]; exact (B1.2.2.2 j hj).1
        · by_cases ej : j = m
          · subst ej
            refine ⟨?_, ?_, ?_⟩
            · rw [qF_uFk (by omega), qF_uFk (by omega), qF_uFs]
            · rw [qF_uFk (by omega), qF_uFs]
            · rw [qF_uFs]
          · rw [qF_uFc (by omega), qF_uFc (by omega), qF_uFc (by omega)]
            exact g1 j (by omega)
      by_cases hb : btn x m
      · refine qW.blk rfl ?_
        refine qv_iload rfl ?_
        refine qv_aload rfl ?_
        refine qv_gr ly_115 ⟨rfl, rfl, rfl⟩ (by omega) ?_
        refine qv_gi ly_9 ⟨rfl, rfl, rfl⟩ ((F1.f (by omega)).trans hc.2.2.1) ?_
        refine qv_icmp_geNf rfl rfl (by omega) (by omega) (by omega) (nx := 2) rfl ?_
        refine qW.blk rfl ?_
        refine qv_aload rfl ?_
        refine qv_gr ly_115 ⟨rfl, rfl, rfl⟩ (by omega) ?_
        refine qv_gr ly_9 ⟨rfl, rfl, rfl⟩ (by omega) ?_
        refine qv_iload rfl ?_
        refine qv_aa (j := m) (r := 12 + 3 * m) ly_10 rfl (show _ < 9 by omega) (by decide) rfl ?_
        refine qv_astore (L' := [_, _, _, _, _, _, _, _]) rfl ?_
        refine qv_aload rfl ?_
        refine qv_gr ly_115 ⟨rfl, rfl, rfl⟩ (by omega) ?_
        refine qv_gr ly_74 ⟨rfl, rfl, rfl⟩ (by omega) ?_
        refine qv_iload rfl ?_
        refine qv_aa (j := m) (r := 84 + 3 * m) ly_75 rfl (show _ < 9 by omega) (by decide) rfl ?_
        refine qv_astore (L' := [_, _, _, _, _, _, _, _]) rfl ?_
        refine qv_iload rfl ?_
        refine qv_iload rfl ?_
        refine qv_ishr ?_
        refine qv_iconst (v := 1) rfl ?_
        refine qv_iand ?_
        refine qv_iconst (v := 1) rfl ?_
        refine qv_icmp_ne_f (fun z => z ((bit_is (by omega) (by omega)).mpr hb)) (nx := 3) rfl ?_
        refine qW.blk rfl ?_
        refine qv_iconst (v := 1) rfl ?_
        refine qv_goto (tgt := 5) rfl ?_
        refine qW.blk rfl ?_
        refine qv_istore (L' := [_, _, _, _, _, _, _, _]) rfl ?_
        refine qv_aload rfl ?_
        refine qv_iload rfl ?_
        refine qv_if_eq_f (by decide) (nx := 6) rfl ?_
        refine qW.blk rfl ?_
        refine qv_iload rfl ?_
        refine qv_goto (tgt := 8) rfl ?_
        refine qW.blk rfl ?_
        refine qv_pi (mb_seat (m := m) (by omega)).1 ⟨rfl, rfl, rfl⟩ (rfl) ?_
        refine qv_aload rfl ?_
        refine qv_iload rfl ?_
        refine qv_if_eq_f (by decide) (nx := 9) rfl ?_
        refine qW.blk rfl ?_
        refine qv_iconst (v := 0) rfl ?_
        refine qv_goto (tgt := 11) rfl ?_
        refine qW.blk rfl ?_
        refine qv_pi (mb_seat (m := m) (by omega)).1 ⟨rfl, rfl, rfl⟩ (rfl) ?_
        refine qv_aload rfl ?_
        refine qv_iload rfl ?_
        refine qv_if_eq_f (by decide) (nx := 12) rfl ?_
        refine qW.blk rfl ?_
        refine qv_iload rfl ?_
        refine qv_goto (tgt := 14) rfl ?_
        refine qW.blk rfl ?_
        refine qv_pi (mb_seat (m := m) (by omega)).1 ⟨rfl, rfl, rfl⟩ (rfl) ?_
        refine qv_iinc (L' := [_, _, _, _, _, _, _, _]) rfl (nI_succ _).symm rfl ?_
        refine qv_goto (tgt := 1) rfl ?_
        exact fin _ _ _ _ _ _ (if_pos hb).symm (if_pos hb).symm (if_pos hb).symm
      · have q1 : qF s1 (12 + 3 * m) 1 = nI (C (10 + m)) := (F1.f (by omega)).trans cm.2.1
        have q3 : qF (uF s1 (84 + 3 * m) 1 (nI (C (10 + m)))) (12 + 3 * m) 3 = nI (C (30 + m)) := by rw [qF_uFc (by omega)]; exact (F1.f (by omega)).trans cm.2.2.2.1
        have q4 : qF (uF (uF s1 (84 + 3 * m) 1 (nI (C (10 + m)))) (84 + 3 * m) 3 (nI (C (30 + m)))) (12 + 3 * m) 4 = nI (C (40 + m)) := by rw [qF_uFc (by omega), qF_uFc (by omega)]; exact (F1.f (by omega)).trans cm.2.2.2.2.1
        refine qW.blk rfl ?_
        refine qv_iload rfl ?_
        refine qv_aload rfl ?_
        refine qv_gr ly_115 ⟨rfl, rfl, rfl⟩ (by omega) ?_
        refine qv_gi ly_9 ⟨rfl, rfl, rfl⟩ ((F1.f (by omega)).trans hc.2.2.1) ?_
        refine qv_icmp_geNf rfl rfl (by omega) (by omega) (by omega) (nx := 2) rfl ?_
        refine qW.blk rfl ?_
        refine qv_aload rfl ?_
        refine qv_gr ly_115 ⟨rfl, rfl, rfl⟩ (by omega) ?_
        refine qv_gr ly_9 ⟨rfl, rfl, rfl⟩ (by omega) ?_
        refine qv_iload rfl ?_
        refine qv_aa (j := m) (r := 12 + 3 * m) ly_10 rfl (show _ < 9 by omega) (by decide) rfl ?_
        refine qv_astore (L' := [_, _, _, _, _, _, _, _]) rfl ?_
        refine qv_aload rfl ?_
        refine qv_gr ly_115 ⟨rfl, rfl, rfl⟩ (by omega) ?_
        refine qv_gr ly_74 ⟨rfl, rfl, rfl⟩ (by omega) ?_
        refine qv_iload rfl ?_
        refine qv_aa (j := m) (r := 84 + 3 * m) ly_75 rfl (show _ < 9 by omega) (by decide) rfl ?_
        refine qv_astore (L' := [_, _, _, _, _, _, _, _]) rfl ?_
        refine qv_iload rfl ?_
        refine qv_iload rfl ?_
        refine qv_ishr ?_
        refine qv_iconst (v := 1) rfl ?_
        refine qv_iand ?_
        refine qv_iconst (v := 1) rfl ?_
        refine qv_icmp_ne_t (fun z => hb ((bit_is (by omega) (by omega)).mp z)) (tgt := 4) rfl ?_
        refine qW.blk rfl ?_
        refine qv_iconst (v := 0) rfl ?_
        refine qv_nil (nx := 5) rfl ?_
        refine qW.blk rfl ?_
        refine qv_istore (L' := [_, _, _, _, _, _, _, _]) rfl ?_
        refine qv_aload rfl ?_
        refine qv_iload rfl ?_
        refine qv_if_eq_t (rfl) (tgt := 7) rfl ?_
        refine qW.blk rfl ?_
        refine qv_aload rfl ?_
        refine qv_gi (mb_now (m := m) (by omega)).1 ⟨rfl, rfl, rfl⟩ (q1) ?_
        refine qv_nil (nx := 8) rfl ?_
        refine qW.blk rfl ?_
        refine qv_pi (mb_seat (m := m) (by omega)).1 ⟨rfl, rfl, rfl⟩ (rfl) ?_
        refine qv_aload rfl ?_
        refine qv_iload rfl ?_
        refine qv_if_eq_t (rfl) (tgt := 10) rfl ?_
        refine qW.blk rfl ?_
        refine qv_aload rfl ?_
        refine qv_gi (mb_now (m := m) (by omega)).1 ⟨rfl, rfl, rfl⟩ (q3) ?_
        refine qv_nil (nx := 11) rfl ?_
        refine qW.blk rfl ?_
        refine qv_pi (mb_seat (m := m) (by omega)).1 ⟨rfl, rfl, rfl⟩ (rfl) ?_
        refine qv_aload rfl ?_
        refine qv_iload rfl ?_
        refine qv_if_eq_t (rfl) (tgt := 13) rfl ?_
        refine qW.blk rfl ?_
        refine qv_aload rfl ?_
        refine qv_gi (mb_now (m := m) (by omega)).1 ⟨rfl, rfl, rfl⟩ (q4) ?_
        refine qv_nil (nx := 14) rfl ?_
        refine qW.blk rfl ?_
        refine qv_pi (mb_seat (m := m) (by omega)).1 ⟨rfl, rfl, rfl⟩ (rfl) ?_
        refine qv_iinc (L' := [_, _, _, _, _, _, _, _]) rfl (nI_succ _).symm rfl ?_
        refine qv_goto (tgt := 1) rfl ?_
        exact fin _ _ _ _ _ _ (if_neg hb).symm (if_neg hb).symm (if_neg hb).symm
  refine qW.blk rfl ?_
  refine qv_iconst (v := 0) rfl ?_
  refine qv_istore (L' := [_, _, _, _, _, _, _, _]) rfl ?_
  refine qv_nil (nx := 1) rfl ?_
  exact loop (C 2) 0 s _ _ _ (by omega) (qfr.rf s) hB (fun j hj => by omega)
theorem w_plainOnes (hP : pm_np PR) {d : Nat} (hd : 1 ≤ d) {C : Nat → Nat} (hc : cC s 9 C) (hC : CB C) [hdec : ∀ m, Decidable (C (10 + m) = 0)] (hk : Q (some (.int (nI (bsN (fun m => C (10 + m) = 0) (C 2))))) s) : qP X PR d 73 [.ref 115] s Q := by
  have hM := hC.2.2.2.1
  refine qP.of (L := [_, _, _]) (by omega) (hP _ rfl) ms_Plots_plainOnes rfl ?_
  show qW X PR (d - 1) (some .int) cd_Plots_plainOnes 0 _ _ _ _
  have loop : ∀ (c m : Nat), m + c = C 2 → qW X PR (d - 1) (some .int) cd_Plots_plainOnes 1 [some (.ref (115)), some (.int (nI (bsN (fun m => C (10 + m) = 0) m))), some (.int (nI m))] [] s Q := by
    intro c
    induction c with
    | zero =>
      intro m hm
      have e' : m = C 2 := by omega
      subst e'
      refine qW.blk rfl ?_
      refine qv_iload rfl ?_
      refine qv_aload rfl ?_
      refine qv_gr ly_115 ⟨rfl, rfl, rfl⟩ (by omega) ?_
      refine qv_gi ly_9 ⟨rfl, rfl, rfl⟩ (hc.2.2.1) ?_
      refine qv_icmp_geNt rfl rfl (by omega) (by omega) (by omega) (tgt := 5) rfl ?_
      refine qW.blk rfl ?_
      refine qv_iload rfl ?_
      refine qv_iret (rfl) ?_
      exact hk
    | succ c ih =>
      intro m hm
      have hk5 := (hC.2.2.2.2.2 m (by omega)).1
      have hb := bsN_or9 (P := fun m => C (10 + m) = 0) (n := m) (by omega)
      have nx := ih (m + 1) (by omega)
      by_cases h : C (10 + m) = 0
      · refine qW.blk rfl ?_
        refine qv_iload rfl ?_
        refine qv_aload rfl ?_
        refine qv_gr ly_115 ⟨rfl, rfl, rfl⟩ (by omega) ?_
        refine qv_gi ly_9 ⟨rfl, rfl, rfl⟩ (hc.2.2.1) ?_
        refine qv_icmp_geNf rfl rfl (by omega) (by omega) (by omega) (nx := 2) rfl ?_
        refine qW.blk rfl ?_
        refine qv_aload rfl ?_
        refine qv_gr ly_115 ⟨rfl, rfl, rfl⟩ (by omega) ?_
        refine qv_gr ly_9 ⟨rfl, rfl, rfl⟩ (by omega) ?_
        refine qv_iload rfl ?_
        refine qv_aa (j := m) (r := 12 + 3 * m) ly_10 rfl (show _ < 9 by omega) (by decide) rfl ?_
        refine qv_gi (mb_now (m := m) (by omega)).1 ⟨rfl, rfl, rfl⟩ ((hc.2.2.2.2 m (by omega)).2.1) ?_
        refine qv_if_neNf rfl (by omega) (by omega) (nx := 3) rfl ?_
        refine qW.blk rfl ?_
        refine qv_iload rfl ?_
        refine qv_iconst (v := 1) rfl ?_
        refine qv_iload rfl ?_
        refine qv_ishl ?_
        refine qv_ior ?_
        refine qv_top (hb.1 h) ?_
        refine qv_istore (L' := [_, _, _]) rfl ?_
        refine qv_nil (nx := 4) rfl ?_
        refine qW.blk rfl ?_
        refine qv_iinc (L' := [_, _, _]) rfl (nI_succ _).symm rfl ?_
        refine qv_goto (tgt := 1) rfl ?_
        exact nx
      · rw [← hb.2 h] at nx
        refine qW.blk rfl ?_
        refine qv_iload rfl ?_
        refine qv_aload rfl ?_
        refine qv_gr ly_115 ⟨rfl, rfl, rfl⟩ (by omega) ?_
        refine qv_gi ly_9 ⟨rfl, rfl, rfl⟩ (hc.2.2.1) ?_
        refine qv_icmp_geNf rfl rfl (by omega) (by omega) (by omega) (nx := 2) rfl ?_
        refine qW.blk rfl ?_
        refine qv_aload rfl ?_
        refine qv_gr ly_115 ⟨rfl, rfl, rfl⟩ (by omega) ?_
        refine qv_gr ly_9 ⟨rfl, rfl, rfl⟩ (by omega) ?_
        refine qv_iload rfl ?_
        refine qv_aa (j := m) (r := 12 + 3 * m) ly_10 rfl (show _ < 9 by omega) (by decide) rfl ?_
        refine qv_gi (mb_now (m := m) (by omega)).1 ⟨rfl, rfl, rfl⟩ ((hc.2.2.2.2 m (by omega)).2.1) ?_
        refine qv_if_neNt rfl (by omega) (by omega) (tgt := 4) rfl ?_
        refine qW.blk rfl ?_
        refine qv_iinc (L' := [_, _, _]) rfl (nI_succ _).symm rfl ?_
        refine qv_goto (tgt := 1) rfl ?_
        exact nx
  refine qW.blk rfl ?_
  refine qv_iconst (v := 0) rfl ?_
  refine qv_istore (L' := [_, _, _]) rfl ?_
  refine qv_iconst (v := 0) rfl ?_
  refine qv_istore (L' := [_, _, _]) rfl ?_
  refine qv_nil (nx := 1) rfl ?_
  exact loop (C 2) 0 (by omega)
theorem w_fewestOf (hP : pm_np PR) {d : Nat} (hd : 8 ≤ d) {C : Nat → Nat} (hc : cC s 9 C) (hC : CB C) {D : TD} (hD : tdOK D) {T k e al : Nat} (hT : cTD (qR s) T D) (hk14 : k = 1 ∨ k = 4) (he : e < 7) (hal : al < 512) {r : Int32} (hr : ((∀ x, x < 512 → ¬ (subI x al ∧ (gval (wMk (cvw C) x k e) D.2.1 (D.2.2.2.1 - 1)).2.1 = e)) ∧ r = -4) ∨ ∃ b, isBest (fun x => subI x al ∧ (gval (wMk (cvw C) x k e) D.2.1 (D.2.2.2.1 - 1)).2.1 = e) 512 b ∧ r = nI b) (hk : ∀ s', qfr 74 110 s s' → Q (some (.int r)) s') : qP X PR d 74 [.ref 115, .int (nI al), .int (nI k), .ref T, .int (nI e)] s Q := by
  have hgl := fun x => (gval_lt hD (wMk_ok (x := x) (e := e) (cvw_ok5 hC) hk14).u).1
  have hpl : ∀ x, pc x ≤ 10 := by
    intro x
    have : ∀ m, sumN (fun i => x / 2 ^ i % 2) m ≤ m := by
      intro m
      induction m with
      | zero => exact Nat.le_refl _
      | succ m ih => show sumN (fun i => x / 2 ^ i % 2) m + x / 2 ^ m % 2 ≤ m + 1; omega
    exact this 10
  have hplal := hpl al
  refine qP.of (L := [_, _, _, _, _, _, _, _]) (by omega) (hP _ rfl) ms_Plots_fewestOf rfl ?_
  show qW X PR (d - 1) (some .int) cd_Plots_fewestOf 0 _ _ _ _
  have inner : ∀ (p : Nat), vok (cvw C) p → ∀ (many lim : Nat), lim ≤ al + 1 → ∀ (c x : Nat) (s1 : QST), x + c = lim → (∀ y, x ≤ y → y < lim → ¬ ((subI y al ∧ (gval (wMk (cvw C) y k e) D.2.1 (D.2.2.2.1 - 1)).2.1 = e) ∧ pc y = many)) → many ≤ 10 → qfr 74 110 s s1 → hmB s1 (cvw C) p → (∀ s2, qfr 74 110 s s2 → hmB s2 (cvw C) p → qW X PR (d - 1) (some .int) cd_Plots_fewestOf 3 [some (.ref (115)), some (.int (nI al)), some (.int (nI k)), some (.ref (T)), some (.int (nI e)), some (.int (nI (pc al))), some (.int (nI many)), some (.int (nI lim))] [] s2 Q) → qW X PR (d - 1) (some .int) cd_Plots_fewestOf 3 [some (.ref (115)), some (.int (nI al)), some (.int (nI k)), some (.ref (T)), some (.int (nI e)), some (.int (nI (pc al))), some (.int (nI many)), some (.int (nI x))] [] s1 Q := by
    intro p vp many lim hlim c
    induction c with
    | zero =>
      intro x s1 hx _ _ F1 B1 cont
      have e' : x = lim := by omega
      subst e'
      exact cont s1 F1 B1
    | succ c ih =>
      intro x s1 hx hno hmany F1 B1 cont
      have nx : ∀ s2, qfr 74 110 s s2 → hmB s2 (cvw C) p → qW X PR (d - 1) (some .int) cd_Plots_fewestOf 8 [some (.ref (115)), some (.int (nI al)), some (.int (nI k)), some (.ref (T)), some (.int (nI e)), some (.int (nI (pc al))), some (.int (nI many)), some (.int (nI x))] [] s2 Q := by
        intro s2 F2 B2
        refine qW.blk rfl ?_
        refine qv_iinc (L' := [_, _, _, _, _, _, _, _]) rfl (nI_succ _).symm rfl ?_
        refine qv_goto (tgt := 3) rfl ?_
        exact ih (x + 1) s2 (by omega) (fun y h1 h2 => hno y (by omega) h2) hmany F2 B2 cont
      have hpx := hpl x
      by_cases h1 : subI x al
      · by_cases h2 : pc x = many
        · have h3 : ¬ (gval (wMk (cvw C) x k e) D.2.1 (D.2.2.2.1 - 1)).2.1 = e := fun z => hno x (Nat.le_refl _) (by omega) ⟨⟨h1, z⟩, h2⟩
          have hg := hgl x
          refine qW.blk rfl ?_
          refine qv_iload rfl ?_
          refine qv_iload rfl ?_
          refine qv_icmp_gtNf rfl rfl (by omega) (by omega) (by omega) (nx := 4) rfl ?_
          refine qW.blk rfl ?_
          refine qv_iload rfl ?_
          refine qv_iload rfl ?_
          refine qv_iconst (v := (-1)) rfl ?_
          refine qv_ixor ?_
          refine qv_iand ?_
          refine qv_if_ne_f (fun z => z h1) (nx := 5) rfl ?_
          refine qW.blk rfl ?_
          refine qv_iload rfl ?_
          refine qv_static sg_Integer_bitCount rfl (w_bitCount hP (by omega) (by omega) ?_) 
          refine qv_iload rfl ?_
          refine qv_icmp_neNf rfl rfl (by omega) (by omega) (by omega) (nx := 6) rfl ?_
          refine qW.blk rfl ?_
          refine qv_aload rfl ?_
          refine qv_iload rfl ?_
          refine qv_iload rfl ?_
          refine qv_iload rfl ?_
          refine qv_virt (ly_115.rcv _) sg_Plots_makeOfKind rfl rfl (w_makeOfKind hP (by omega) (hc.cg F1 hC.2.2.2.1 (by omega)) hC (by omega) B1 (fun s2 F2 m2 B2 => ?_)) 
          refine qv_aload rfl ?_
          refine qv_gr ly_115 ⟨rfl, rfl, rfl⟩ (by omega) ?_
          refine qv_aload rfl ?_
          refine qv_virt (ly_74.rcv _) sg_Hall_settle rfl rfl (w_settleT hP (by omega) (m2.ok (wMk_ok vp hk14)) hD (by rw [F2.R, F1.R]; exact hT) (tdE hD) (m2.ve (wMk_ok vp hk14)) (fun s3 F3 h3' => ?_)) 
          refine qv_iload rfl ?_
          refine qv_icmp_ne_t (fun z => h3 ((nI_eq (by omega) (by omega)).mp z)) (tgt := 8) rfl ?_
          exact nx s3 ((F1.trans (F2.mono (by omega) (by omega))).trans (F3.mono (by omega) (by omega))) (B2.fr F3)
        · refine qW.blk rfl ?_
          refine qv_iload rfl ?_
          refine qv_iload rfl ?_
          refine qv_icmp_gtNf rfl rfl (by omega) (by omega) (by omega) (nx := 4) rfl ?_
          refine qW.blk rfl ?_
          refine qv_iload rfl ?_
          refine qv_iload rfl ?_
          refine qv_iconst (v := (-1)) rfl ?_
          refine qv_ixor ?_
          refine qv_iand ?_
          refine qv_if_ne_f (fun z => z h1) (nx := 5) rfl ?_
          refine qW.blk rfl ?_
          refine qv_iload rfl ?_
          refine qv_static sg_Integer_bitCount rfl (w_bitCount hP (by omega) (by omega) ?_) 
          refine qv_iload rfl ?_
          refine qv_icmp_neNt rfl rfl (by omega) (by omega) (by omega) (tgt := 8) rfl ?_
          exact nx s1 F1 B1
      · refine qW.blk rfl ?_
        refine qv_iload rfl ?_
        refine qv_iload rfl ?_
        refine qv_icmp_gtNf rfl rfl (by omega) (by omega) (by omega) (nx := 4) rfl ?_
        refine qW.blk rfl ?_
        refine qv_iload rfl ?_
        refine qv_iload rfl ?_
        refine qv_iconst (v := (-1)) rfl ?_
        refine qv_ixor ?_
        refine qv_iand ?_
        refine qv_if_ne_t (h1) (tgt := 8) rfl ?_
        exact nx s1 F1 B1
  have outer : ∀ (p : Nat), vok (cvw C) p → ∀ (M : Nat), M ≤ pc al + 1 → (∀ y, y < al + 1 → (subI y al ∧ (gval (wMk (cvw C) y k e) D.2.1 (D.2.2.2.1 - 1)).2.1 = e) → M ≤ pc y) → ∀ (c many : Nat) (s1 : QST) (L7 : Option Value), many + c = M → qfr 74 110 s s1 → hmB s1 (cvw C) p → (∀ s2 (L7 : Option Value), qfr 74 110 s s2 → hmB s2 (cvw C) p → qW X PR (d - 1) (some .int) cd_Plots_fewestOf 1 [some (.ref (115)), some (.int (nI al)), some (.int (nI k)), some (.ref (T)), some (.int (nI e)), some (.int (nI (pc al))), some (.int (nI M)), L7] [] s2 Q) → qW X PR (d - 1) (some .int) cd_Plots_fewestOf 1 [some (.ref (115)), some (.int (nI al)), some (.int (nI k)), some (.ref (T)), some (.int (nI e)), some (.int (nI (pc al))), some (.int (nI many)), L7] [] s1 Q := by
    intro p vp M hM hno c
    induction c with
    | zero =>
      intro many s1 L7 hm F1 B1 cont
      have e' : many = M := by omega
      subst e'
      exact cont s1 L7 F1 B1
    | succ c ih =>
      intro many s1 L7 hm F1 B1 cont
      refine qW.blk rfl ?_
      refine qv_iload rfl ?_
      refine qv_iload rfl ?_
      refine qv_icmp_gtNf rfl rfl (by omega) (by omega) (by omega) (nx := 2) rfl ?_
      refine qW.blk rfl ?_
      refine qv_iconst (v := 0) rfl ?_
      refine qv_istore (L' := [_, _, _, _, _, _, _, _]) rfl ?_
      refine qv_nil (nx := 3) rfl ?_
      refine inner p vp many (al + 1) (Nat.le_refl _) (al + 1) 0 s1 (by omega) (fun y _ h2 z => by have := hno y h2 z.1; omega) (by omega) F1 B1 (fun s2 F2 B2 => ?_)
      refine qW.blk rfl ?_
      refine qv_iload rfl ?_
      refine qv_iload rfl ?_
      refine qv_icmp_gtNt rfl rfl (by omega) (by omega) (by omega) (tgt := 9) rfl ?_
      refine qW.blk rfl ?_
      refine qv_iinc (L' := [_, _, _, _, _, _, _, _]) rfl (nI_succ _).symm rfl ?_
      refine qv_goto (tgt := 1) rfl ?_
      exact ih (many + 1) s2 _ (by omega) F2 B2 cont
  have start : ∀ (s1 : QST) (p : Nat), qfr 74 110 s s1 → hm s1 (cvw C) p → vok (cvw C) p → qW X PR (d - 1) (some .int) cd_Plots_fewestOf 1 [some (.ref (115)), some (.int (nI al)), some (.int (nI k)), some (.ref (T)), some (.int (nI e)), some (.int (nI (pc al))), some (.int (nI 0)), none] [] s1 Q := by
    intro s1 p F1 m1 v1
    rcases hr with ⟨hno, rfl⟩ | ⟨b, ⟨b1, ⟨b2, b3⟩, b4⟩, rfl⟩
    · refine outer p v1 (pc al + 1) (Nat.le_refl _) (fun y h1 h2 => absurd h2 (hno y (by omega))) (pc al + 1) 0 s1 _ (by omega) F1 m1.b (fun s2 L7 F2 B2 => ?_)
      refine qW.blk rfl ?_
      refine qv_iload rfl ?_
      refine qv_iload rfl ?_
      refine qv_icmp_gtNt rfl rfl (by omega) (by omega) (by omega) (tgt := 10) rfl ?_
      refine qW.blk rfl ?_
      refine qv_iconst (v := (-4)) rfl ?_
      refine qv_iret (rfl) ?_
      exact hk s2 F2
    · have hba : b ≤ al := subI_le (by omega) (by omega) b2
      have hpb := subI_pc (x := b) (y := al) (by omega) (by omega) b2
      have hpb10 := hpl b
      refine outer p v1 (pc b) (by omega) (fun y h1 h2 => by rcases b4 y (by omega) h2 with h | h <;> omega) (pc b) 0 s1 _ (by omega) F1 m1.b (fun s2 L7 F2 B2 => ?_)
      refine qW.blk rfl ?_
      refine qv_iload rfl ?_
      refine qv_iload rfl ?_
      refine qv_icmp_gtNf rfl rfl (by omega) (by omega) (by omega) (nx := 2) rfl ?_
      refine qW.blk rfl ?_
      refine qv_iconst (v := 0) rfl ?_
      refine qv_istore (L' := [_, _, _, _, _, _, _, _]) rfl ?_
      refine qv_nil (nx := 3) rfl ?_
      refine inner p v1 (pc b) b (by omega) b 0 s2 (by omega) (fun y _ h2 z => by rcases b4 y (by omega) z.1 with h | h <;> omega) (by omega) F2 B2 (fun s3 F3 B3 => ?_)
      have hg := hgl b
      refine qW.blk rfl ?_
      refine qv_iload rfl ?_
      refine qv_iload rfl ?_
      refine qv_icmp_gtNf rfl rfl (by omega) (by omega) (by omega) (nx := 4) rfl ?_
      refine qW.blk rfl ?_
      refine qv_iload rfl ?_
      refine qv_iload rfl ?_
      refine qv_iconst (v := (-1)) rfl ?_
      refine qv_ixor ?_
      refine qv_iand ?_
      refine qv_if_ne_f (fun z => z b2) (nx := 5) rfl ?_
      refine qW.blk rfl ?_
      refine qv_iload rfl ?_
      refine qv_static sg_Integer_bitCount rfl (w_bitCount hP (by omega) (by omega) ?_) 
      refine qv_iload rfl ?_
      refine qv_icmp_neNf rfl rfl (by omega) (by omega) (by omega) (nx := 6) rfl ?_
      refine qW.blk rfl ?_
      refine qv_aload rfl ?_
      refine qv_iload rfl ?_
      refine qv_iload rfl ?_
      refine qv_iload rfl ?_
      refine qv_virt (ly_115.rcv _) sg_Plots_makeOfKind rfl rfl (w_makeOfKind hP (by omega) (hc.cg F3 hC.2.2.2.1 (by omega)) hC (by omega) B3 (fun s4 F4 m4 B4 => ?_)) 
      refine qv_aload rfl ?_
      refine qv_gr ly_115 ⟨rfl, rfl, rfl⟩ (by omega) ?_
      refine qv_aload rfl ?_
      refine qv_virt (ly_74.rcv _) sg_Hall_settle rfl rfl (w_settleT hP (by omega) (m4.ok (wMk_ok v1 hk14)) hD (by rw [F4.R, F3.R]; exact hT) (tdE hD) (m4.ve (wMk_ok v1 hk14)) (fun s5 F5 h5 => ?_)) 
      refine qv_iload rfl ?_
      refine qv_icmp_neNf rfl rfl (by omega) (by omega) (by omega) (nx := 7) rfl ?_
      refine qW.blk rfl ?_
      refine qv_iload rfl ?_
      refine qv_iret (rfl) ?_
      exact hk s5 ((F3.trans (F4.mono (by omega) (by omega))).trans (F5.mono (by omega) (by omega)))
  refine qW.blk rfl ?_
  refine qv_aload rfl ?_
  refine qv_gr ly_115 ⟨rfl, rfl, rfl⟩ (by omega) ?_
  refine qv_aload rfl ?_
  refine qv_gr ly_115 ⟨rfl, rfl, rfl⟩ (by omega) ?_
  refine qv_virt (ly_74.rcv _) sg_Hall_seat rfl rfl (w_Hall_seat hP (by omega) hc hC (fun s1 p F1 m1 v1 => ?_)) 
  refine qv_iload rfl ?_
  refine qv_static sg_Integer_bitCount rfl (w_bitCount hP (by omega) (by omega) ?_) 
  refine qv_istore (L' := [_, _, _, _, _, _, _, _]) rfl ?_
  refine qv_iconst (v := 0) rfl ?_
  refine qv_istore (L' := [_, _, _, _, _, _, _, _]) rfl ?_
  refine qv_nil (nx := 1) rfl ?_
  exact start s1 p F1 m1 v1
end
