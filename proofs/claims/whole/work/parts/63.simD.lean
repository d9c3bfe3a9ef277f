/-! about, count, image, restore are alike -/
section
variable {X : pm_X} {PR : pm_P}
theorem w_takeOver_39 (hP : pm_np PR) {d : Nat} (hd : 4 ≤ d) {s : QST} {Q : QPost} {C : Nat → Nat} (hc : cC s 9 C) (hM : C 2 ≤ 9) (hT12 : C 3 ≤ 12) (ht : ∀ t, t < C 3 → ∃ T fs, qT s 11 t = some T ∧ 204 ≤ T ∧ (qR s)[T - 204]? = some (.inr (8, fs))) (hk : ∀ s', qfr 39 68 s s' → cC s' 39 C → (∀ t, t < C 3 → qT s' 41 t = qT s 11 t) → Q none s') : qP X PR d 7 [.ref 39, .ref 9] s Q := by
  obtain ⟨h0, h1, h2, h3, h4⟩ := hc
  refine qP.of (L := [_, _, _]) (by omega) (hP _ rfl) ms_Chamber_takeOver rfl ?_
  show qW X PR (d - 1) (none) cd_Chamber_takeOver 0 _ _ _ _
  have last : ∀ (k t : Nat) (s1 : QST), t + k = C 3 → qfr 39 68 s s1 → cC s1 39 C → (∀ u, u < t → qT s1 41 u = qT s 11 u) → qW X PR (d - 1) (none) cd_Chamber_takeOver 4 [some (.ref (39)), some (.ref (9)), some (.int (nI t))] [] s1 Q := by
    intro k
    induction k with
    | zero =>
      intro t s1 hk1 F1 g1 g2
      have e : t = C 3 := by omega
      subst e
      refine qW.blk rfl ?_
      refine qv_iload rfl ?_
      refine qv_aload rfl ?_
      refine qv_gi ly_39 ⟨rfl, rfl, rfl⟩ (g1.2.2.2.1) ?_
      refine qv_icmp_geNt rfl rfl (by omega) (by omega) (by omega) (tgt := 6) rfl ?_
      refine qW.blk rfl ?_
      refine qv_ret rfl ?_
      exact hk s1 F1 g1 g2
    | succ k ih =>
      intro t s1 hk1 F1 g1 g2
      obtain ⟨T, fs, t1, t2, t3⟩ := ht t (by omega)
      have t4 : qT s1 11 t = some T := by rw [F1.T (by omega)]; exact t1
      refine qW.blk rfl ?_
      refine qv_iload rfl ?_
      refine qv_aload rfl ?_
      refine qv_gi ly_39 ⟨rfl, rfl, rfl⟩ (g1.2.2.2.1) ?_
      refine qv_icmp_geNf rfl rfl (by omega) (by omega) (by omega) (nx := 5) rfl ?_
      refine qW.blk rfl ?_
      refine qv_aload rfl ?_
      refine qv_gr ly_39 ⟨rfl, rfl, rfl⟩ (by omega) ?_
      refine qv_iload rfl ?_
      refine qv_aload rfl ?_
      refine qv_gr ly_9 ⟨rfl, rfl, rfl⟩ (by omega) ?_
      refine qv_iload rfl ?_
      refine qv_ad ly_11 rfl (by omega) (by decide) (t4) ?_
      refine qv_as ly_41 rfl (by omega) (by decide) (qhp_rest t2 (by rw [F1.R]; exact t3)) ?_
      refine qv_iinc (L' := [_, _, _]) rfl (nI_succ _).symm rfl ?_
      refine qv_goto (tgt := 4) rfl ?_
      have F2 := F1.uT (c := 41) (k := t) (v := some T) (by omega)
      refine ih (t + 1) _ (by omega) F2 ⟨g1.1, g1.2.1, g1.2.2.1, g1.2.2.2.1, fun m hm => (g1.2.2.2.2 m hm).cg rfl rfl rfl⟩ (fun u hu => ?_)
      by_cases e : u = t
      · subst e; rw [qT_uTs, t1]
      · rw [qT_uTk e]; exact g2 u (by omega)
  have loop : ∀ (k m : Nat) (s1 : QST), m + k = C 2 → qfr 39 68 s s1 → qF s1 39 0 = nI (C 0) → qF s1 39 1 = nI (C 1) → qF s1 39 2 = nI (C 2) → qF s1 39 3 = nI (C 3) → (∀ j, j < m → cM s1 (39 + 3 + 3 * j) j C) → qW X PR (d - 1) (none) cd_Chamber_takeOver 1 [some (.ref (39)), some (.ref (9)), some (.int (nI m))] [] s1 Q := by
    intro k
    induction k with
    | zero =>
      intro m s1 hm F1 g0 g1 g2 g3 g4
      have e : m = C 2 := by omega
      subst e
      refine qW.blk rfl ?_
      refine qv_iload rfl ?_
      refine qv_aload rfl ?_
      refine qv_gi ly_39 ⟨rfl, rfl, rfl⟩ (g2) ?_
      refine qv_icmp_geNt rfl rfl (by omega) (by omega) (by omega) (tgt := 3) rfl ?_
      refine qW.blk rfl ?_
      refine qv_iconst (v := 0) rfl ?_
      refine qv_istore (L' := [_, _, _]) rfl ?_
      refine qv_nil (nx := 4) rfl ?_
      exact last (C 3) 0 s1 (by omega) F1 ⟨g0, g1, g2, g3, g4⟩ (fun u hu => by omega)
    | succ k ih =>
      intro m s1 hm F1 g0 g1 g2 g3 g4
      have cm := h4 m (by omega)
      refine qW.blk rfl ?_
      refine qv_iload rfl ?_
      refine qv_aload rfl ?_
      refine qv_gi ly_39 ⟨rfl, rfl, rfl⟩ (g2) ?_
      refine qv_icmp_geNf rfl rfl (by omega) (by omega) (by omega) (nx := 2) rfl ?_
      refine qW.blk rfl ?_
      refine qv_aload rfl ?_
      refine qv_gr ly_39 ⟨rfl, rfl, rfl⟩ (by omega) ?_
      refine qv_iload rfl ?_
      refine qv_aa (j := m) (r := 42 + 3 * m) ly_40 rfl (show _ < 9 by omega) (by decide) rfl ?_
      refine qv_aload rfl ?_
      refine qv_gr ly_9 ⟨rfl, rfl, rfl⟩ (by omega) ?_
      refine qv_iload rfl ?_
      refine qv_aa (j := m) (r := 12 + 3 * m) ly_10 rfl (show _ < 9 by omega) (by decide) rfl ?_
      refine qv_virt ((mb_pic (m := m) (by omega)).1.rcv _) sg_Member_takeOver rfl rfl (w_Member_takeOver hP (by omega) (mb_pic (m := m) (by omega)) (mb_now (m := m) (by omega)) (by omega) (fun s2 F2 x1 x2 => ?_)) 
      refine qv_iinc (L' := [_, _, _]) rfl (nI_succ _).symm rfl ?_
      refine qv_goto (tgt := 1) rfl ?_
      have y1 : ∀ q, q < 6 → qF s2 (42 + 3 * m) q = qF s (12 + 3 * m) q := fun q hq => by rw [x1 q hq, F1.f (by omega)]
      have y2 : ∀ e, e < 7 → qE s2 (42 + 3 * m + 1) e = qE s (12 + 3 * m + 1) e ∧ qE s2 (42 + 3 * m + 2) e = qE s (12 + 3 * m + 2) e := fun e he => by
        rw [(x2 e he).1, (x2 e he).2, F1.e (by omega), F1.e (by omega)]; exact ⟨rfl, rfl⟩
      refine ih (m + 1) s2 (by omega) (F1.trans (F2.mono (by omega) (by omega))) ?_ ?_ ?_ ?_ (fun j hj => ?_)
      · rw [F2.f (by omega)]; exact g0
      · rw [F2.f (by omega)]; exact g1
      · rw [F2.f (by omega)]; exact g2
      · rw [F2.f (by omega)]; exact g3
      · by_cases e : j = m
        · subst e
          obtain ⟨m0, m1, m2, m3, m4, m5, m6⟩ := cm
          exact ⟨(y1 0 (by omega)).trans m0, (y1 1 (by omega)).trans m1, (y1 2 (by omega)).trans m2, (y1 3 (by omega)).trans m3, (y1 4 (by omega)).trans m4, (y1 5 (by omega)).trans m5, fun e he => ⟨(y2 e he).1.trans (m6 e he).1, (y2 e he).2.trans (m6 e he).2⟩⟩
        · exact (g4 j (by omega)).cg (F2.F (by omega)) (F2.E (by omega)) (F2.E (by omega))
  refine qW.blk rfl ?_
  refine qv_aload rfl ?_
  refine qv_aload rfl ?_
  refine qv_gi ly_9 ⟨rfl, rfl, rfl⟩ (h0) ?_
  refine qv_pi ly_39 ⟨rfl, rfl, rfl⟩ (rfl) ?_
  refine qv_aload rfl ?_
  refine qv_aload rfl ?_
  refine qv_gi ly_9 ⟨rfl, rfl, rfl⟩ (h1) ?_
  refine qv_pi ly_39 ⟨rfl, rfl, rfl⟩ (rfl) ?_
  refine qv_aload rfl ?_
  refine qv_aload rfl ?_
  refine qv_gi ly_9 ⟨rfl, rfl, rfl⟩ (h2) ?_
  refine qv_pi ly_39 ⟨rfl, rfl, rfl⟩ (rfl) ?_
  refine qv_aload rfl ?_
  refine qv_aload rfl ?_
  refine qv_gi ly_9 ⟨rfl, rfl, rfl⟩ (h3) ?_
  refine qv_pi ly_39 ⟨rfl, rfl, rfl⟩ (rfl) ?_
  refine qv_iconst (v := 0) rfl ?_
  refine qv_istore (L' := [_, _, _]) rfl ?_
  refine qv_nil (nx := 1) rfl ?_
  have F0 := ((((qfr.rf (lo := 39) (hi := 68) s).uF (c := 39) (k := 0) (v := nI (C 0)) (by omega)).uF (c := 39) (k := 1) (v := nI (C 1)) (by omega)).uF (c := 39) (k := 2) (v := nI (C 2)) (by omega)).uF (c := 39) (k := 3) (v := nI (C 3)) (by omega)
  refine loop (C 2) 0 _ (by omega) F0 ?_ ?_ ?_ ?_ (fun j hj => by omega)
  · rw [qF_uFk (by omega), qF_uFk (by omega), qF_uFk (by omega), qF_uFs]
  · rw [qF_uFk (by omega), qF_uFk (by omega), qF_uFs]
  · rw [qF_uFk (by omega), qF_uFs]
  · rw [qF_uFs]
theorem w_takeOver_9 (hP : pm_np PR) {d : Nat} (hd : 4 ≤ d) {s : QST} {Q : QPost} {C : Nat → Nat} (hc : cC s 39 C) (hM : C 2 ≤ 9) (hT12 : C 3 ≤ 12) (ht : ∀ t, t < C 3 → ∃ T fs, qT s 41 t = some T ∧ 204 ≤ T ∧ (qR s)[T - 204]? = some (.inr (8, fs))) (hk : ∀ s', qfr 9 38 s s' → cC s' 9 C → (∀ t, t < C 3 → qT s' 11 t = qT s 41 t) → Q none s') : qP X PR d 7 [.ref 9, .ref 39] s Q := by
  obtain ⟨h0, h1, h2, h3, h4⟩ := hc
  refine qP.of (L := [_, _, _]) (by omega) (hP _ rfl) ms_Chamber_takeOver rfl ?_
  show qW X PR (d - 1) (none) cd_Chamber_takeOver 0 _ _ _ _
  have last : ∀ (k t : Nat) (s1 : QST), t + k = C 3 → qfr 9 38 s s1 → cC s1 9 C → (∀ u, u < t → qT s1 11 u = qT s 41 u) → qW X PR (d - 1) (none) cd_Chamber_takeOver 4 [some (.ref (9)), some (.ref (39)), some (.int (nI t))] [] s1 Q := by
    intro k
    induction k with
    | zero =>
      intro t s1 hk1 F1 g1 g2
      have e : t = C 3 := by omega
      subst e
      refine qW.blk rfl ?_
      refine qv_iload rfl ?_
      refine qv_aload rfl ?_
      refine qv_gi ly_9 ⟨rfl, rfl, rfl⟩ (g1.2.2.2.1) ?_
      refine qv_icmp_geNt rfl rfl (by omega) (by omega) (by omega) (tgt := 6) rfl ?_
      refine qW.blk rfl ?_
      refine qv_ret rfl ?_
      exact hk s1 F1 g1 g2
    | succ k ih =>
      intro t s1 hk1 F1 g1 g2
      obtain ⟨T, fs, t1, t2, t3⟩ := ht t (by omega)
      have t4 : qT s1 41 t = some T := by rw [F1.T (by omega)]; exact t1
      refine qW.blk rfl ?_
      refine qv_iload rfl ?_
      refine qv_aload rfl ?_
      refine qv_gi ly_9 ⟨rfl, rfl, rfl⟩ (g1.2.2.2.1) ?_
      refine qv_icmp_geNf rfl rfl (by omega) (by omega) (by omega) (nx := 5) rfl ?_
      refine qW.blk rfl ?_
      refine qv_aload rfl ?_
      refine qv_gr ly_9 ⟨rfl, rfl, rfl⟩ (by omega) ?_
      refine qv_iload rfl ?_
      refine qv_aload rfl ?_
      refine qv_gr ly_39 ⟨rfl, rfl, rfl⟩ (by omega) ?_
      refine qv_iload rfl ?_
      refine qv_ad ly_41 rfl (by omega) (by decide) (t4) ?_
      refine qv_as ly_11 rfl (by omega) (by decide) (qhp_rest t2 (by rw [F1.R]; exact t3)) ?_
      refine qv_iinc (L' := [_, _, _]) rfl (nI_succ _).symm rfl ?_
      refine qv_goto (tgt := 4) rfl ?_
      have F2 := F1.uT (c := 11) (k := t) (v := some T) (by omega)
      refine ih (t + 1) _ (by omega) F2 ⟨g1.1, g1.2.1, g1.2.2.1, g1.2.2.2.1, fun m hm => (g1.2.2.2.2 m hm).cg rfl rfl rfl⟩ (fun u hu => ?_)
      by_cases e : u = t
      · subst e; rw [qT_uTs, t1]
      · rw [qT_uTk e]; exact g2 u (by omega)
  have loop : ∀ (k m : Nat) (s1 : QST), m + k = C 2 → qfr 9 38 s s1 → qF s1 9 0 = nI (C 0) → qF s1 9 1 = nI (C 1) → qF s1 9 2 = nI (C 2) → qF s1 9 3 = nI (C 3) → (∀ j, j < m → cM s1 (9 + 3 + 3 * j) j C) → qW X PR (d - 1) (none) cd_Chamber_takeOver 1 [some (.ref (9)), some (.ref (39)), some (.int (nI m))] [] s1 Q := by
    intro k
    induction k with
    | zero =>
      intro m s1 hm F1 g0 g1 g2 g3 g4
      have e : m = C 2 := by omega
      subst e
      refine qW.blk rfl ?_
      refine qv_iload rfl ?_
      refine qv_aload rfl ?_
      refine qv_gi ly_9 ⟨rfl, rfl, rfl⟩ (g2) ?_
      refine qv_icmp_geNt rfl rfl (by omega) (by omega) (by omega) (tgt := 3) rfl ?_
      refine qW.blk rfl ?_
      refine qv_iconst (v := 0) rfl ?_
      refine qv_istore (L' := [_, _, _]) rfl ?_
      refine qv_nil (nx := 4) rfl ?_
      exact last (C 3) 0 s1 (by omega) F1 ⟨g0, g1, g2, g3, g4⟩ (fun u hu => by omega)
    | succ k ih =>
      intro m s1 hm F1 g0 g1 g2 g3 g4
      have cm := h4 m (by omega)
      refine qW.blk rfl ?_
      refine qv_iload rfl ?_
      refine qv_aload rfl ?_
      refine qv_gi ly_9 ⟨rfl, rfl, rfl⟩ (g2) ?_
      refine qv_icmp_geNf rfl rfl (by omega) (by omega) (by omega) (nx := 2) rfl ?_
      refine qW.blk rfl ?_
      refine qv_aload rfl ?_
      refine qv_gr ly_9 ⟨rfl, rfl, rfl⟩ (by omega) ?_
      refine qv_iload rfl ?_
      refine qv_aa (j := m) (r := 12 + 3 * m) ly_10 rfl (show _ < 9 by omega) (by decide) rfl ?_
      refine qv_aload rfl ?_
      refine qv_gr ly_39 ⟨rfl, rfl, rfl⟩ (by omega) ?_
      refine qv_iload rfl ?_
      refine qv_aa (j := m) (r := 42 + 3 * m) ly_40 rfl (show _ < 9 by omega) (by decide) rfl ?_
      refine qv_virt ((mb_now (m := m) (by omega)).1.rcv _) sg_Member_takeOver rfl rfl (w_Member_takeOver hP (by omega) (mb_now (m := m) (by omega)) (mb_pic (m := m) (by omega)) (by omega) (fun s2 F2 x1 x2 => ?_)) 
      refine qv_iinc (L' := [_, _, _]) rfl (nI_succ _).symm rfl ?_
      refine qv_goto (tgt := 1) rfl ?_
      have y1 : ∀ q, q < 6 → qF s2 (12 + 3 * m) q = qF s (42 + 3 * m) q := fun q hq => by rw [x1 q hq, F1.f (by omega)]
      have y2 : ∀ e, e < 7 → qE s2 (12 + 3 * m + 1) e = qE s (42 + 3 * m + 1) e ∧ qE s2 (12 + 3 * m + 2) e = qE s (42 + 3 * m + 2) e := fun e he => by
        rw [(x2 e he).1, (x2 e he).2, F1.e (by omega), F1.e (by omega)]; exact ⟨rfl, rfl⟩
      refine ih (m + 1) s2 (by omega) (F1.trans (F2.mono (by omega) (by omega))) ?_ ?_ ?_ ?_ (fun j hj => ?_)
      · rw [F2.f (by omega)]; exact g0
      · rw [F2.f (by omega)]; exact g1
      · rw [F2.f (by omega)]; exact g2
      · rw [F2.f (by omega)]; exact g3
      · by_cases e : j = m
        · subst e
          obtain ⟨m0, m1, m2, m3, m4, m5, m6⟩ := cm
          exact ⟨(y1 0 (by omega)).trans m0, (y1 1 (by omega)).trans m1, (y1 2 (by omega)).trans m2, (y1 3 (by omega)).trans m3, (y1 4 (by omega)).trans m4, (y1 5 (by omega)).trans m5, fun e he => ⟨(y2 e he).1.trans (m6 e he).1, (y2 e he).2.trans (m6 e he).2⟩⟩
        · exact (g4 j (by omega)).cg (F2.F (by omega)) (F2.E (by omega)) (F2.E (by omega))
  refine qW.blk rfl ?_
  refine qv_aload rfl ?_
  refine qv_aload rfl ?_
  refine qv_gi ly_39 ⟨rfl, rfl, rfl⟩ (h0) ?_
  refine qv_pi ly_9 ⟨rfl, rfl, rfl⟩ (rfl) ?_
  refine qv_aload rfl ?_
  refine qv_aload rfl ?_
  refine qv_gi ly_39 ⟨rfl, rfl, rfl⟩ (h1) ?_
  refine qv_pi ly_9 ⟨rfl, rfl, rfl⟩ (rfl) ?_
  refine qv_aload rfl ?_
  refine qv_aload rfl ?_
  refine qv_gi ly_39 ⟨rfl, rfl, rfl⟩ (h2) ?_
  refine qv_pi ly_9 ⟨rfl, rfl, rfl⟩ (rfl) ?_
  refine qv_aload rfl ?_
  refine qv_aload rfl ?_
  refine qv_gi ly_39 ⟨rfl, rfl, rfl⟩ (h3) ?_
  refine qv_pi ly_9 ⟨rfl, rfl, rfl⟩ (rfl) ?_
  refine qv_iconst (v := 0) rfl ?_
  refine qv_istore (L' := [_, _, _]) rfl ?_
  refine qv_nil (nx := 1) rfl ?_
  have F0 := ((((qfr.rf (lo := 9) (hi := 38) s).uF (c := 9) (k := 0) (v := nI (C 0)) (by omega)).uF (c := 9) (k := 1) (v := nI (C 1)) (by omega)).uF (c := 9) (k := 2) (v := nI (C 2)) (by omega)).uF (c := 9) (k := 3) (v := nI (C 3)) (by omega)
  refine loop (C 2) 0 _ (by omega) F0 ?_ ?_ ?_ ?_ (fun j hj => by omega)
  · rw [qF_uFk (by omega), qF_uFk (by omega), qF_uFk (by omega), qF_uFs]
  · rw [qF_uFk (by omega), qF_uFk (by omega), qF_uFs]
  · rw [qF_uFk (by omega), qF_uFs]
  · rw [qF_uFs]
theorem tab_o {x : Int32} {n : Nat} {d : Int} {offs : Array Int} (hn : n < 2 ^ 31) (h : ¬ (0 ≤ x ∧ x ≤ nI n)) : pm_tab d 0 n offs x = some d := by
  unfold pm_tab
  rw [if_pos]
  by_cases h1 : x.toInt < 0
  · exact Or.inl h1
  · refine Or.inr ?_
    have h2 : (0 : Int32) ≤ x := by rw [Int32.le_iff_toInt_le]; exact Int.not_lt.mp h1
    have h3 : ¬ x ≤ nI n := fun z => h ⟨h2, z⟩
    rw [Int32.le_iff_toInt_le, nI_toInt hn] at h3
    omega
theorem w_M_heftOf (hP : pm_np PR) {d : Nat} (hd : 1 ≤ d) {s : QST} {Q : QPost} {C : Nat → Nat} (h : rC s 164 C) (hC : CB C) {m : Nat} (hm : m < C 2) (hk : Q (some (.int (nI (heftN (C (10 + m)) (C (20 + m)) (C (30 + m)))))) s) : qP X PR d 176 [.ref 163, .int (nI m)] s Q := by
  have hM := hC.2.2.2.1
  obtain ⟨c1, c2, c3, c4, -⟩ := hC.2.2.2.2.2 m hm
  have cn := hC.num hm
  obtain ⟨k, hk'⟩ : ∃ k, C (10 + m) = k := ⟨_, rfl⟩
  have e1 := h (10 + m) (by omega)
  rw [hk'] at c1 e1 hk
  refine qP.of (L := [_, _, _]) (by omega) (hP _ rfl) ms_Model_heftOf rfl ?_
  show qW X PR (d - 1) (some .int) cd_Model_heftOf 0 _ _ _ _
  rcases (show k = 0 ∨ k = 1 ∨ k = 2 ∨ k = 3 ∨ k = 4 ∨ k = 5 by omega) with rfl | rfl | rfl | rfl | rfl | rfl
  · refine qW.blk rfl ?_
    refine qv_aload rfl ?_
    refine qv_gr ly_163 ⟨rfl, rfl, rfl⟩ (by omega) ?_
    refine qv_iconst (v := 20) rfl ?_
    refine qv_iload rfl ?_
    refine qv_iaddN (p := 20) rfl rfl ?_
    refine qv_ia ly_164 rfl (by omega) (by decide) (h (20 + m) (by omega)) ?_
    refine qv_istore (L' := [_, _, _]) rfl ?_
    refine qv_aload rfl ?_
    refine qv_gr ly_163 ⟨rfl, rfl, rfl⟩ (by omega) ?_
    refine qv_iconst (v := 10) rfl ?_
    refine qv_iload rfl ?_
    refine qv_iaddN (p := 10) rfl rfl ?_
    refine qv_ia ly_164 rfl (by omega) (by decide) (e1) ?_
    refine qv_table (rfl) (tgt := 1) rfl ?_
    refine qW.blk rfl ?_
    refine qv_iload rfl ?_
    refine qv_iret (rfl) ?_
    exact hk
  · refine qW.blk rfl ?_
    refine qv_aload rfl ?_
    refine qv_gr ly_163 ⟨rfl, rfl, rfl⟩ (by omega) ?_
    refine qv_iconst (v := 20) rfl ?_
    refine qv_iload rfl ?_
    refine qv_iaddN (p := 20) rfl rfl ?_
    refine qv_ia ly_164 rfl (by omega) (by decide) (h (20 + m) (by omega)) ?_
    refine qv_istore (L' := [_, _, _]) rfl ?_
    refine qv_aload rfl ?_
    refine qv_gr ly_163 ⟨rfl, rfl, rfl⟩ (by omega) ?_
    refine qv_iconst (v := 10) rfl ?_
    refine qv_iload rfl ?_
    refine qv_iaddN (p := 10) rfl rfl ?_
    refine qv_ia ly_164 rfl (by omega) (by decide) (e1) ?_
    refine qv_table (rfl) (tgt := 2) rfl ?_
    refine qW.blk rfl ?_
    refine qv_iload rfl ?_
    refine qv_iconst (v := 1) rfl ?_
    refine qv_iaddN (q := 1) rfl rfl ?_
    refine qv_iret (rfl) ?_
    exact hk
  · refine qW.blk rfl ?_
    refine qv_aload rfl ?_
    refine qv_gr ly_163 ⟨rfl, rfl, rfl⟩ (by omega) ?_
    refine qv_iconst (v := 20) rfl ?_
    refine qv_iload rfl ?_
    refine qv_iaddN (p := 20) rfl rfl ?_
    refine qv_ia ly_164 rfl (by omega) (by decide) (h (20 + m) (by omega)) ?_
    refine qv_istore (L' := [_, _, _]) rfl ?_
    refine qv_aload rfl ?_
    refine qv_gr ly_163 ⟨rfl, rfl, rfl⟩ (by omega) ?_
    refine qv_iconst (v := 10) rfl ?_
    refine qv_iload rfl ?_
    refine qv_iaddN (p := 10) rfl rfl ?_
    refine qv_ia ly_164 rfl (by omega) (by decide) (e1) ?_
    refine qv_table (rfl) (tgt := 3) rfl ?_
    refine qW.blk rfl ?_
    refine qv_iload rfl ?_
    refine qv_iconst (v := 1) rfl ?_
    refine qv_iaddN (q := 1) rfl rfl ?_
    refine qv_aload rfl ?_
    refine qv_gr ly_163 ⟨rfl, rfl, rfl⟩ (by omega) ?_
    refine qv_iconst (v := 30) rfl ?_
    refine qv_iload rfl ?_
    refine qv_iaddN (p := 30) rfl rfl ?_
    refine qv_ia ly_164 rfl (by omega) (by decide) (h (30 + m) (by omega)) ?_
    refine qv_iaddN rfl rfl ?_
    refine qv_iret (rfl) ?_
    exact hk
  · refine qW.blk rfl ?_
    refine qv_aload rfl ?_
    refine qv_gr ly_163 ⟨rfl, rfl, rfl⟩ (by omega) ?_
    refine qv_iconst (v := 20) rfl ?_
    refine qv_iload rfl ?_
    refine qv_iaddN (p := 20) rfl rfl ?_
    refine qv_ia ly_164 rfl (by omega) (by decide) (h (20 + m) (by omega)) ?_
    refine qv_istore (L' := [_, _, _]) rfl ?_
    refine qv_aload rfl ?_
    refine qv_gr ly_163 ⟨rfl, rfl, rfl⟩ (by omega) ?_
    refine qv_iconst (v := 10) rfl ?_
    refine qv_iload rfl ?_
    refine qv_iaddN (p := 10) rfl rfl ?_
    refine qv_ia ly_164 rfl (by omega) (by decide) (e1) ?_
    refine qv_table (rfl) (tgt := 4) rfl ?_
    refine qW.blk rfl ?_
    refine qv_iconst (v := 2) rfl ?_
    refine qv_iload rfl ?_
    refine qv_imulN (p := 2) rfl rfl ?_
    refine qv_iret (rfl) ?_
    exact hk
  · refine qW.blk rfl ?_
    refine qv_aload rfl ?_
    refine qv_gr ly_163 ⟨rfl, rfl, rfl⟩ (by omega) ?_
    refine qv_iconst (v := 20) rfl ?_
    refine qv_iload rfl ?_
    refine qv_iaddN (p := 20) rfl rfl ?_
    refine qv_ia ly_164 rfl (by omega) (by decide) (h (20 + m) (by omega)) ?_
    refine qv_istore (L' := [_, _, _]) rfl ?_
    refine qv_aload rfl ?_
    refine qv_gr ly_163 ⟨rfl, rfl, rfl⟩ (by omega) ?_
    refine qv_iconst (v := 10) rfl ?_
    refine qv_iload rfl ?_
    refine qv_iaddN (p := 10) rfl rfl ?_
    refine qv_ia ly_164 rfl (by omega) (by decide) (e1) ?_
    refine qv_table (rfl) (tgt := 5) rfl ?_
    refine qW.blk rfl ?_
    refine qv_iconst (v := 2) rfl ?_
    refine qv_iload rfl ?_
    refine qv_imulN (p := 2) rfl rfl ?_
    refine qv_iconst (v := 1) rfl ?_
    refine qv_isubN (q := 1) rfl rfl (by omega) ?_
    refine qv_iret (rfl) ?_
    exact hk
  · refine qW.blk rfl ?_
    refine qv_aload rfl ?_
    refine qv_gr ly_163 ⟨rfl, rfl, rfl⟩ (by omega) ?_
    refine qv_iconst (v := 20) rfl ?_
    refine qv_iload rfl ?_
    refine qv_iaddN (p := 20) rfl rfl ?_
    refine qv_ia ly_164 rfl (by omega) (by decide) (h (20 + m) (by omega)) ?_
    refine qv_istore (L' := [_, _, _]) rfl ?_
    refine qv_aload rfl ?_
    refine qv_gr ly_163 ⟨rfl, rfl, rfl⟩ (by omega) ?_
    refine qv_iconst (v := 10) rfl ?_
    refine qv_iload rfl ?_
    refine qv_iaddN (p := 10) rfl rfl ?_
    refine qv_ia ly_164 rfl (by omega) (by decide) (e1) ?_
    refine qv_table (rfl) (tgt := 6) rfl ?_
    refine qW.blk rfl ?_
    refine qv_iload rfl ?_
    refine qv_iconst (v := 2) rfl ?_
    refine qv_idivN (q := 2) rfl rfl (by omega) (by omega) (by omega) ?_
    refine qv_iret (rfl) ?_
    exact hk
theorem r_weight_C (hP : pm_np PR) {d : Nat} (hd : 1 ≤ d) {s : QST} {C : Nat → Nat} (hC : CB C) {A m : Nat} (hA : qMB A) (cm : cM s A m C) (hm : m < C 2) : pm_run X pm_Ms PR d 44 [.ref A] (qhp s) = some (some (.int (nI (heftN (C (10 + m)) (C (20 + m)) (C (30 + m))))), qhp s) := by
  obtain ⟨c1, c2, c3, c4, -⟩ := hC.2.2.2.2.2 m hm
  exact r_Member_weight hP hd hA cm.2.1 c1 cm.2.2.1 ⟨c2, c3⟩ cm.2.2.2.1 (hC.num hm)
theorem Sim_about (hP : pm_np PR) (a w : Int32) : Sim X PR 118 175 [.int a, .int w] := by
  intro d A hd hA
  have hC := hA.1
  have hM := hC.2.2.2.1
  by_cases h0 : (∃ m, m < aC A 2 ∧ a = nI m) ∧ ∃ j, j ≤ 4 ∧ w = nI j
  · obtain ⟨⟨m, hm, rfl⟩, j, j2, rfl⟩ := h0
    refine ⟨.int (nI (if j = 0 then aC A (10 + m) else if j = 1 then aC A (20 + m) else if j = 2 then aC A (30 + m) else if j = 3 then heftN (aC A (10 + m)) (aC A (20 + m)) (aC A (30 + m)) else aC A (50 + m))), A, hA, ?_, ?_⟩
    · intro s Q hJ hk
      have cm := hJ.1.2.2.2.2 m hm
      have fin := hk s hJ (cfr.rf s)
      refine qP.of (L := [_, _, _, _]) (by omega) (hP _ rfl) ms_Desk_about rfl ?_
      show qW X PR (d - 1) (some .int) cd_Desk_about 0 _ _ _ _
      rcases (show j = 0 ∨ j = 1 ∨ j = 2 ∨ j = 3 ∨ j = 4 by omega) with rfl | rfl | rfl | rfl | rfl
      · refine qW.blk rfl ?_
        refine qv_aload rfl ?_
        refine qv_gr ly_8 ⟨rfl, rfl, rfl⟩ (by omega) ?_
        refine qv_iload rfl ?_
        refine qv_virtE (ly_9.rcv _) sg_Chamber_memberAt rfl rfl (r_memberAt_y hP (by omega) hJ.1.2.2.1 hM hm) ?_
        refine qv_astore (L' := [_, _, _, _]) rfl ?_
        refine qv_aload rfl ?_
        refine qv_nonnull_t (tgt := 2) rfl ?_
        refine qW.blk rfl ?_
        refine qv_iload rfl ?_
        refine qv_table (rfl) (tgt := 3) rfl ?_
        refine qW.blk rfl ?_
        refine qv_aload rfl ?_
        refine qv_gi (mb_now (m := m) (by omega)).1 ⟨rfl, rfl, rfl⟩ (cm.2.1) ?_
        refine qv_iret (rfl) ?_
        exact fin
      · refine qW.blk rfl ?_
        refine qv_aload rfl ?_
        refine qv_gr ly_8 ⟨rfl, rfl, rfl⟩ (by omega) ?_
        refine qv_iload rfl ?_
        refine qv_virtE (ly_9.rcv _) sg_Chamber_memberAt rfl rfl (r_memberAt_y hP (by omega) hJ.1.2.2.1 hM hm) ?_
        refine qv_astore (L' := [_, _, _, _]) rfl ?_
        refine qv_aload rfl ?_
        refine qv_nonnull_t (tgt := 2) rfl ?_
        refine qW.blk rfl ?_
        refine qv_iload rfl ?_
        refine qv_table (rfl) (tgt := 4) rfl ?_
        refine qW.blk rfl ?_
        refine qv_aload rfl ?_
        refine qv_gi (mb_now (m := m) (by omega)).1 ⟨rfl, rfl, rfl⟩ (cm.2.2.1) ?_
        refine qv_iret (rfl) ?_
        exact fin
      · refine qW.blk rfl ?_
        refine qv_aload rfl ?_
        refine qv_gr ly_8 ⟨rfl, rfl, rfl⟩ (by omega) ?_
        refine qv_iload rfl ?_
        refine qv_virtE (ly_9.rcv _) sg_Chamber_memberAt rfl rfl (r_memberAt_y hP (by omega) hJ.1.2.2.1 hM hm) ?_
        refine qv_astore (L' := [_, _, _, _]) rfl ?_
        refine qv_aload rfl ?_
        refine qv_nonnull_t (tgt := 2) rfl ?_
        refine qW.blk rfl ?_
        refine qv_iload rfl ?_
        refine qv_table (rfl) (tgt := 5) rfl ?_
        refine qW.blk rfl ?_
        refine qv_aload rfl ?_
        refine qv_gi (mb_now (m := m) (by omega)).1 ⟨rfl, rfl, rfl⟩ (cm.2.2.2.1) ?_
        refine qv_iret (rfl) ?_
        exact fin
      · refine qW.blk rfl ?_
        refine qv_aload rfl ?_
        refine qv_gr ly_8 ⟨rfl, rfl, rfl⟩ (by omega) ?_
        refine qv_iload rfl ?_
        refine qv_virtE (ly_9.rcv _) sg_Chamber_memberAt rfl rfl (r_memberAt_y hP (by omega) hJ.1.2.2.1 hM hm) ?_
        refine qv_astore (L' := [_, _, _, _]) rfl ?_
        refine qv_aload rfl ?_
        refine qv_nonnull_t (tgt := 2) rfl ?_
        refine qW.blk rfl ?_
        refine qv_iload rfl ?_
        refine qv_table (rfl) (tgt := 6) rfl ?_
        refine qW.blk rfl ?_
        refine qv_aload rfl ?_
        refine qv_virtE ((mb_now (m := m) (by omega)).1.rcv _) sg_Member_weight rfl rfl (r_weight_C hP (by omega) hC (mb_now (m := m) (by omega)) cm hm) ?_
        refine qv_iret (rfl) ?_
        exact fin
      · refine qW.blk rfl ?_
        refine qv_aload rfl ?_
        refine qv_gr ly_8 ⟨rfl, rfl, rfl⟩ (by omega) ?_
        refine qv_iload rfl ?_
        refine qv_virtE (ly_9.rcv _) sg_Chamber_memberAt rfl rfl (r_memberAt_y hP (by omega) hJ.1.2.2.1 hM hm) ?_
        refine qv_astore (L' := [_, _, _, _]) rfl ?_
        refine qv_aload rfl ?_
        refine qv_nonnull_t (tgt := 2) rfl ?_
        refine qW.blk rfl ?_
        refine qv_iload rfl ?_
        refine qv_table (rfl) (tgt := 7) rfl ?_
        refine qW.blk rfl ?_
        refine qv_aload rfl ?_
        refine qv_gi (mb_now (m := m) (by omega)).1 ⟨rfl, rfl, rfl⟩ (cm.2.2.2.2.2.1) ?_
        refine qv_iret (rfl) ?_
        exact fin
    · intro s Q hJ hk
      have fin := hk (uF s 163 0 0) hJ.thr ((qfr.rf s).uF (by omega))
      have hin : nI 0 ≤ nI j ∧ nI j ≤ nI 4 := (w_iff (by omega) (by omega) (by omega)).mpr ⟨by omega, j2⟩
      refine qP.of (L := [_, _, _]) (by omega) (hP _ rfl) ms_Model_about rfl ?_
      show qW X PR (d - 1) (some .int) cd_Model_about 0 _ _ _ _
      refine qW.blk rfl ?_
      refine qv_aload rfl ?_
      refine qv_iconst (v := 0) rfl ?_
      refine qv_pi ly_163 ⟨rfl, rfl, rfl⟩ (rfl) ?_
      refine qv_aload rfl ?_
      refine qv_iload rfl ?_
      refine qv_virtE (ly_163.rcv _) sg_Model_isMember rfl rfl (r_M_isMember hP (by omega) (nI m) (hJ.thr.1 2 (by decide))) ?_
      refine qv_if_eq_f (bI_ne.mpr ((in_nI1 (by omega)).mpr ⟨m, hm, rfl⟩)) (nx := 1) rfl ?_
      refine qW.blk rfl ?_
      refine qv_iload rfl ?_
      refine qv_iconst (v := 0) rfl ?_
      refine qv_iconst (v := 4) rfl ?_
      refine qv_staticE sg_Model_in rfl (r_Model_in hP (by omega) (nI j) (nI 0) (nI 4) _) ?_
      refine qv_if_ne_t (bI_ne.mpr (hin)) (tgt := 3) rfl ?_
      rcases (show j = 0 ∨ j = 1 ∨ j = 2 ∨ j = 3 ∨ j = 4 by omega) with rfl | rfl | rfl | rfl | rfl
      · refine qW.blk rfl ?_
        refine qv_iload rfl ?_
        refine qv_if_neNf rfl (by omega) (by omega) (nx := 4) rfl ?_
        refine qW.blk rfl ?_
        refine qv_aload rfl ?_
        refine qv_gr ly_163 ⟨rfl, rfl, rfl⟩ (by omega) ?_
        refine qv_iconst (v := 10) rfl ?_
        refine qv_iload rfl ?_
        refine qv_iaddN (p := 10) rfl rfl ?_
        refine qv_ia ly_164 rfl (by omega) (by decide) (hJ.thr.1 (10 + m) (by omega)) ?_
        refine qv_goto (tgt := 12) rfl ?_
        refine qW.blk rfl ?_
        refine qv_iret (rfl) ?_
        exact fin
      · refine qW.blk rfl ?_
        refine qv_iload rfl ?_
        refine qv_if_neNt rfl (by omega) (by omega) (tgt := 5) rfl ?_
        refine qW.blk rfl ?_
        refine qv_iload rfl ?_
        refine qv_iconst (v := 1) rfl ?_
        refine qv_icmp_neNf (q := 1) rfl rfl (by omega) (by omega) (by omega) (nx := 6) rfl ?_
        refine qW.blk rfl ?_
        refine qv_aload rfl ?_
        refine qv_gr ly_163 ⟨rfl, rfl, rfl⟩ (by omega) ?_
        refine qv_iconst (v := 20) rfl ?_
        refine qv_iload rfl ?_
        refine qv_iaddN (p := 20) rfl rfl ?_
        refine qv_ia ly_164 rfl (by omega) (by decide) (hJ.thr.1 (20 + m) (by omega)) ?_
        refine qv_goto (tgt := 12) rfl ?_
        refine qW.blk rfl ?_
        refine qv_iret (rfl) ?_
        exact fin
      · refine qW.blk rfl ?_
        refine qv_iload rfl ?_
        refine qv_if_neNt rfl (by omega) (by omega) (tgt := 5) rfl ?_
        refine qW.blk rfl ?_
        refine qv_iload rfl ?_
        refine qv_iconst (v := 1) rfl ?_
        refine qv_icmp_neNt (q := 1) rfl rfl (by omega) (by omega) (by omega) (tgt := 7) rfl ?_
        refine qW.blk rfl ?_
        refine qv_iload rfl ?_
        refine qv_iconst (v := 2) rfl ?_
        refine qv_icmp_neNf (q := 2) rfl rfl (by omega) (by omega) (by omega) (nx := 8) rfl ?_
        refine qW.blk rfl ?_
        refine qv_aload rfl ?_
        refine qv_gr ly_163 ⟨rfl, rfl, rfl⟩ (by omega) ?_
        refine qv_iconst (v := 30) rfl ?_
        refine qv_iload rfl ?_
        refine qv_iaddN (p := 30) rfl rfl ?_
        refine qv_ia ly_164 rfl (by omega) (by decide) (hJ.thr.1 (30 + m) (by omega)) ?_
        refine qv_goto (tgt := 12) rfl ?_
        refine qW.blk rfl ?_
        refine qv_iret (rfl) ?_
        exact fin
      · refine qW.blk rfl ?_
        refine qv_iload rfl ?_
        refine qv_if_neNt rfl (by omega) (by omega) (tgt := 5) rfl ?_
        refine qW.blk rfl ?_
        refine qv_iload rfl ?_
        refine qv_iconst (v := 1) rfl ?_
        refine qv_icmp_neNt (q := 1) rfl rfl (by omega) (by omega) (by omega) (tgt := 7) rfl ?_
        refine qW.blk rfl ?_
        refine qv_iload rfl ?_
        refine qv_iconst (v := 2) rfl ?_
        refine qv_icmp_neNt (q := 2) rfl rfl (by omega) (by omega) (by omega) (tgt := 9) rfl ?_
        refine qW.blk rfl ?_
        refine qv_iload rfl ?_
        refine qv_iconst (v := 3) rfl ?_
        refine qv_icmp_neNf (q := 3) rfl rfl (by omega) (by omega) (by omega) (nx := 10) rfl ?_
        refine qW.blk rfl ?_
        refine qv_aload rfl ?_
        refine qv_iload rfl ?_
        refine qv_virt (ly_163.rcv _) sg_Model_heftOf rfl rfl (w_M_heftOf hP (by omega) hJ.thr.1 hC hm ?_) 
        refine qv_goto (tgt := 12) rfl ?_
        refine qW.blk rfl ?_
        refine qv_iret (rfl) ?_
        exact fin
      · refine qW.blk rfl ?_
        refine qv_iload rfl ?_
        refine qv_if_neNt rfl (by omega) (by omega) (tgt := 5) rfl ?_
        refine qW.blk rfl ?_
        refine qv_iload rfl ?_
        refine qv_iconst (v := 1) rfl ?_
        refine qv_icmp_neNt (q := 1) rfl rfl (by omega) (by omega) (by omega) (tgt := 7) rfl ?_
        refine qW.blk rfl ?_
        refine qv_iload rfl ?_
        refine qv_iconst (v := 2) rfl ?_
        refine qv_icmp_neNt (q := 2) rfl rfl (by omega) (by omega) (by omega) (tgt := 9) rfl ?_
        refine qW.blk rfl ?_
        refine qv_iload rfl ?_
        refine qv_iconst (v := 3) rfl ?_
        refine qv_icmp_neNt (q := 3) rfl rfl (by omega) (by omega) (by omega) (tgt := 11) rfl ?_
        refine qW.blk rfl ?_
        refine qv_aload rfl ?_
        refine qv_gr ly_163 ⟨rfl, rfl, rfl⟩ (by omega) ?_
        refine qv_iconst (v := 50) rfl ?_
        refine qv_iload rfl ?_
        refine qv_iaddN (p := 50) rfl rfl ?_
        refine qv_ia ly_164 rfl (by omega) (by decide) (hJ.thr.1 (50 + m) (by omega)) ?_
        refine qv_nil (nx := 12) rfl ?_
        refine qW.blk rfl ?_
        refine qv_iret (rfl) ?_
        exact fin
  · refine ⟨.int (-1), A, hA, ?_, ?_⟩
    · intro s Q hJ hk
      have fin := hk s hJ (cfr.rf s)
      refine qP.of (L := [_, _, _, _]) (by omega) (hP _ rfl) ms_Desk_about rfl ?_
      show qW X PR (d - 1) (some .int) cd_Desk_about 0 _ _ _ _
      rcases pl_of a (aC A 2) with hm | hm
      · obtain ⟨m, hm, rfl⟩ := hm
        have hn : ¬ (0 ≤ w ∧ w ≤ nI 4) := fun z => h0 ⟨⟨m, hm, rfl⟩, (in_nI (n := 4) (by omega)).mp z⟩
        refine qW.blk rfl ?_
        refine qv_aload rfl ?_
        refine qv_gr ly_8 ⟨rfl, rfl, rfl⟩ (by omega) ?_
        refine qv_iload rfl ?_
        refine qv_virtE (ly_9.rcv _) sg_Chamber_memberAt rfl rfl (r_memberAt_y hP (by omega) hJ.1.2.2.1 hM hm) ?_
        refine qv_astore (L' := [_, _, _, _]) rfl ?_
        refine qv_aload rfl ?_
        refine qv_nonnull_t (tgt := 2) rfl ?_
        refine qW.blk rfl ?_
        refine qv_iload rfl ?_
        refine qv_table (tab_o (n := 4) (by omega) hn) (tgt := 8) rfl ?_
        refine qW.blk rfl ?_
        refine qv_iconst (v := (-1)) rfl ?_
        refine qv_iret (rfl) ?_
        exact fin
      · refine qW.blk rfl ?_
        refine qv_aload rfl ?_
        refine qv_gr ly_8 ⟨rfl, rfl, rfl⟩ (by omega) ?_
        refine qv_iload rfl ?_
        refine qv_virtE (ly_9.rcv _) sg_Chamber_memberAt rfl rfl (r_memberAt_n hP (by omega) hJ.1.2.2.1 hM hm) ?_
        refine qv_astoreN (L' := [_, _, _, _]) rfl ?_
        refine qv_aloadN rfl ?_
        refine qv_nonnull_f (nx := 1) rfl ?_
        refine qW.blk rfl ?_
        refine qv_iconst (v := (-1)) rfl ?_
        refine qv_iret (rfl) ?_
        exact fin
    · intro s Q hJ hk
      have fin := hk (uF s 163 0 0) hJ.thr ((qfr.rf s).uF (by omega))
      refine qP.of (L := [_, _, _]) (by omega) (hP _ rfl) ms_Model_about rfl ?_
      show qW X PR (d - 1) (some .int) cd_Model_about 0 _ _ _ _
      rcases pl_of a (aC A 2) with hm | hm
      · have hn : ¬ (0 ≤ w ∧ w ≤ nI 4) := fun z => h0 ⟨hm, (in_nI (n := 4) (by omega)).mp z⟩
        refine qW.blk rfl ?_
        refine qv_aload rfl ?_
        refine qv_iconst (v := 0) rfl ?_
        refine qv_pi ly_163 ⟨rfl, rfl, rfl⟩ (rfl) ?_
        refine qv_aload rfl ?_
        refine qv_iload rfl ?_
        refine qv_virtE (ly_163.rcv _) sg_Model_isMember rfl rfl (r_M_isMember hP (by omega) a (hJ.thr.1 2 (by decide))) ?_
        refine qv_if_eq_f (bI_ne.mpr ((in_nI1 (by omega)).mpr hm)) (nx := 1) rfl ?_
        refine qW.blk rfl ?_
        refine qv_iload rfl ?_
        refine qv_iconst (v := 0) rfl ?_
        refine qv_iconst (v := 4) rfl ?_
        refine qv_staticE sg_Model_in rfl (r_Model_in hP (by omega) w 0 (nI 4) _) ?_
        refine qv_if_ne_f (fun zq => zq (bI_f (hn))) (nx := 2) rfl ?_
        refine qW.blk rfl ?_
        refine qv_iconst (v := (-1)) rfl ?_
        refine qv_iret (rfl) ?_
        exact fin
      · refine qW.blk rfl ?_
        refine qv_aload rfl ?_
        refine qv_iconst (v := 0) rfl ?_
        refine qv_pi ly_163 ⟨rfl, rfl, rfl⟩ (rfl) ?_
        refine qv_aload rfl ?_
        refine qv_iload rfl ?_
        refine qv_virtE (ly_163.rcv _) sg_Model_isMember rfl rfl (r_M_isMember hP (by omega) a (hJ.thr.1 2 (by decide))) ?_
        refine qv_if_eq_t (bI_f (fun z => hm ((in_nI1 (by omega)).mp z))) (tgt := 2) rfl ?_
        refine qW.blk rfl ?_
        refine qv_iconst (v := (-1)) rfl ?_
        refine qv_iret (rfl) ?_
        exact fin
theorem w_allVoices (hP : pm_np PR) {d : Nat} (hd : 1 ≤ d) {s : QST} {Q : QPost} {C : Nat → Nat} (hc : cC s 9 C) (hM : C 2 ≤ 9) (hk : Q (some (.int (nI (sumN (fun m => C (20 + m)) (C 2))))) s) : qP X PR d 8 [.ref 9] s Q := by
  refine qP.of (L := [_, _, _]) (by omega) (hP _ rfl) ms_Chamber_allVoices rfl ?_
  show qW X PR (d - 1) (some .int) cd_Chamber_allVoices 0 _ _ _ _
  have loop : ∀ (k m : Nat), m + k = C 2 → qW X PR (d - 1) (some .int) cd_Chamber_allVoices 1 [some (.ref (9)), some (.int (nI (sumN (fun m => C (20 + m)) m))), some (.int (nI m))] [] s Q := by
    intro k
    induction k with
    | zero =>
      intro m hm
      have e : m = C 2 := by omega
      subst e
      refine qW.blk rfl ?_
      refine qv_iload rfl ?_
      refine qv_aload rfl ?_
      refine qv_gi ly_9 ⟨rfl, rfl, rfl⟩ (hc.2.2.1) ?_
      refine qv_icmp_geNt rfl rfl (by omega) (by omega) (by omega) (tgt := 3) rfl ?_
      refine qW.blk rfl ?_
      refine qv_iload rfl ?_
      refine qv_iret (rfl) ?_
      exact hk
    | succ k ih =>
      intro m hm
      refine qW.blk rfl ?_
      refine qv_iload rfl ?_
      refine qv_aload rfl ?_
      refine qv_gi ly_9 ⟨rfl, rfl, rfl⟩ (hc.2.2.1) ?_
      refine qv_icmp_geNf rfl rfl (by omega) (by omega) (by omega) (nx := 2) rfl ?_
      refine qW.blk rfl ?_
      refine qv_iload rfl ?_
      refine qv_aload rfl ?_
      refine qv_gr ly_9 ⟨rfl, rfl, rfl⟩ (by omega) ?_
      refine qv_iload rfl ?_
      refine qv_aa (j := m) (r := 12 + 3 * m) ly_10 rfl (show _ < 9 by omega) (by decide) rfl ?_
      refine qv_gi (mb_now (m := m) (by omega)).1 ⟨rfl, rfl, rfl⟩ ((hc.2.2.2.2 m (by omega)).2.2.1) ?_
      refine qv_iaddN rfl rfl ?_
      refine qv_istore (L' := [_, _, _]) rfl ?_
      refine qv_iinc (L' := [_, _, _]) rfl (nI_succ _).symm rfl ?_
      refine qv_goto (tgt := 1) rfl ?_
      exact ih (m + 1) (by omega)
  refine qW.blk rfl ?_
  refine qv_iconst (v := 0) rfl ?_
  refine qv_istore (L' := [_, _, _]) rfl ?_
  refine qv_iconst (v := 0) rfl ?_
  refine qv_istore (L' := [_, _, _]) rfl ?_
  refine qv_nil (nx := 1) rfl ?_
  exact loop (C 2) 0 (by omega)
theorem w_allWeight (hP : pm_np PR) {d : Nat} (hd : 2 ≤ d) {s : QST} {Q : QPost} {C : Nat → Nat} (hc : cC s 9 C) (hC : CB C) (hk : Q (some (.int (nI (sumN (fun m => heftN (C (10 + m)) (C (20 + m)) (C (30 + m))) (C 2))))) s) : qP X PR d 10 [.ref 9] s Q := by
  have hM := hC.2.2.2.1
  refine qP.of (L := [_, _, _]) (by omega) (hP _ rfl) ms_Chamber_allWeight rfl ?_
  show qW X PR (d - 1) (some .int) cd_Chamber_allWeight 0 _ _ _ _
  have loop : ∀ (k m : Nat), m + k = C 2 → qW X PR (d - 1) (some .int) cd_Chamber_allWeight 1 [some (.ref (9)), some (.int (nI (sumN (fun m => heftN (C (10 + m)) (C (20 + m)) (C (30 + m))) m))), some (.int (nI m))] [] s Q := by
    intro k
    induction k with
    | zero =>
      intro m hm
      have e : m = C 2 := by omega
      subst e
      refine qW.blk rfl ?_
      refine qv_iload rfl ?_
      refine qv_aload rfl ?_
      refine qv_gi ly_9 ⟨rfl, rfl, rfl⟩ (hc.2.2.1) ?_
      refine qv_icmp_geNt rfl rfl (by omega) (by omega) (by omega) (tgt := 3) rfl ?_
      refine qW.blk rfl ?_
      refine qv_iload rfl ?_
      refine qv_iret (rfl) ?_
      exact hk
    | succ k ih =>
      intro m hm
      refine qW.blk rfl ?_
      refine qv_iload rfl ?_
      refine qv_aload rfl ?_
      refine qv_gi ly_9 ⟨rfl, rfl, rfl⟩ (hc.2.2.1) ?_
      refine qv_icmp_geNf rfl rfl (by omega) (by omega) (by omega) (nx := 2) rfl ?_
      refine qW.blk rfl ?_
      refine qv_iload rfl ?_
      refine qv_aload rfl ?_
      refine qv_gr ly_9 ⟨rfl, rfl, rfl⟩ (by omega) ?_
      refine qv_iload rfl ?_
      refine qv_aa (j := m) (r := 12 + 3 * m) ly_10 rfl (show _ < 9 by omega) (by decide) rfl ?_
      refine qv_virtE ((mb_now (m := m) (by omega)).1.rcv _) sg_Member_weight rfl rfl (r_weight_C hP (by omega) hC (mb_now (m := m) (by omega)) (hc.2.2.2.2 m (by omega)) (by omega)) ?_
      refine qv_iaddN rfl rfl ?_
      refine qv_istore (L' := [_, _, _]) rfl ?_
      refine qv_iinc (L' := [_, _, _]) rfl (nI_succ _).symm rfl ?_
      refine qv_goto (tgt := 1) rfl ?_
      exact ih (m + 1) (by omega)
  refine qW.blk rfl ?_
  refine qv_iconst (v := 0) rfl ?_
  refine qv_istore (L' := [_, _, _]) rfl ?_
  refine qv_iconst (v := 0) rfl ?_
  refine qv_istore (L' := [_, _, _]) rfl ?_
  refine qv_nil (nx := 1) rfl ?_
  exact loop (C 2) 0 (by omega)
theorem w_allQuestions (hP : pm_np PR) {d : Nat} (hd : 1 ≤ d) {s : QST} {Q : QPost} {A : AS} (hJ : JC s A) (hA : AOK A) (hk : Q (some (.int (nI (sumN (fun t => (aT A t).2.2.2.2.1) (aC A 3))))) s) : qP X PR d 9 [.ref 9] s Q := by
  have h12 := hA.1.2.2.2.2.1
  refine qP.of (L := [_, _, _]) (by omega) (hP _ rfl) ms_Chamber_allQuestions rfl ?_
  show qW X PR (d - 1) (some .int) cd_Chamber_allQuestions 0 _ _ _ _
  have loop : ∀ (k t : Nat), t + k = aC A 3 → qW X PR (d - 1) (some .int) cd_Chamber_allQuestions 1 [some (.ref (9)), some (.int (nI (sumN (fun t => (aT A t).2.2.2.2.1) t))), some (.int (nI t))] [] s Q := by
    intro k
    induction k with
    | zero =>
      intro t hm
      have e : t = aC A 3 := by omega
      subst e
      refine qW.blk rfl ?_
      refine qv_iload rfl ?_
      refine qv_aload rfl ?_
      refine qv_gi ly_9 ⟨rfl, rfl, rfl⟩ (hJ.1.2.2.2.1) ?_
      refine qv_icmp_geNt rfl rfl (by omega) (by omega) (by omega) (tgt := 3) rfl ?_
      refine qW.blk rfl ?_
      refine qv_iload rfl ?_
      refine qv_iret (rfl) ?_
      exact hk
    | succ k ih =>
      intro t hm
      obtain ⟨T, hT1, w, sc, pr, hT, -⟩ := hJ.2.2.2.1 t (by omega)
      refine qW.blk rfl ?_
      refine qv_iload rfl ?_
      refine qv_aload rfl ?_
      refine qv_gi ly_9 ⟨rfl, rfl, rfl⟩ (hJ.1.2.2.2.1) ?_
      refine qv_icmp_geNf rfl rfl (by omega) (by omega) (by omega) (nx := 2) rfl ?_
      refine qW.blk rfl ?_
      refine qv_iload rfl ?_
      refine qv_aload rfl ?_
      refine qv_gr ly_9 ⟨rfl, rfl, rfl⟩ (by omega) ?_
      refine qv_iload rfl ?_
      refine qv_ad ly_11 rfl (by omega) (by decide) (hT1) ?_
      refine qv_gh (hT.o rfl) rfl rfl ?_
      refine qv_iadd ?_
      refine qv_top (nI_add _ _) ?_
      refine qv_istore (L' := [_, _, _]) rfl ?_
      refine qv_iinc (L' := [_, _, _]) rfl (nI_succ _).symm rfl ?_
      refine qv_goto (tgt := 1) rfl ?_
      exact ih (t + 1) (by omega)
  refine qW.blk rfl ?_
  refine qv_iconst (v := 0) rfl ?_
  refine qv_istore (L' := [_, _, _]) rfl ?_
  refine qv_iconst (v := 0) rfl ?_
  refine qv_istore (L' := [_, _, _]) rfl ?_
  refine qv_nil (nx := 1) rfl ?_
  exact loop (aC A 3) 0 (by omega)
def cntN (A : AS) (j : Nat) : Nat := if j = 0 then aC A 0 else if j = 1 then aC A 1 else if j = 2 then aC A 2 else if j = 3 then sumN (fun m => aC A (20 + m)) (aC A 2) else if j = 4 then aC A 3 else if j = 5 then sumN (fun t => (aT A t).2.2.2.2.1) (aC A 3) else sumN (fun m => heftN (aC A (10 + m)) (aC A (20 + m)) (aC A (30 + m))) (aC A 2)
theorem Sim_count (hP : pm_np PR) (w : Int32) : Sim X PR 154 250 [.int w] := by
  intro d A hd hA
  have hC := hA.1
  have hM := hC.2.2.2.1
  have h12 := hC.2.2.2.2.1
  by_cases h0 : ∃ j, j ≤ 6 ∧ w = nI j
  · obtain ⟨j, j2, rfl⟩ := h0
    refine ⟨.int (nI (cntN A j)), A, hA, ?_, ?_⟩
    · intro s Q hJ hk
      have fin := hk s hJ (cfr.rf s)
      refine qP.of (L := [_, _]) (by omega) (hP _ rfl) ms_Desk_count rfl ?_
      show qW X PR (d - 1) (some .int) cd_Desk_count 0 _ _ _ _
      rcases (show j = 0 ∨ j = 1 ∨ j = 2 ∨ j = 3 ∨ j = 4 ∨ j = 5 ∨ j = 6 by omega) with rfl | rfl | rfl | rfl | rfl | rfl | rfl
      · refine qW.blk rfl ?_
        refine qv_iload rfl ?_
        refine qv_table (rfl) (tgt := 1) rfl ?_
        refine qW.blk rfl ?_
        refine qv_aload rfl ?_
        refine qv_gr ly_8 ⟨rfl, rfl, rfl⟩ (by omega) ?_
        refine qv_gi ly_9 ⟨rfl, rfl, rfl⟩ (hJ.1.1) ?_
        refine qv_iret (rfl) ?_
        exact fin
      · refine qW.blk rfl ?_
        refine qv_iload rfl ?_
        refine qv_table (rfl) (tgt := 2) rfl ?_
        refine qW.blk rfl ?_
        refine qv_aload rfl ?_
        refine qv_gr ly_8 ⟨rfl, rfl, rfl⟩ (by omega) ?_
        refine qv_gi ly_9 ⟨rfl, rfl, rfl⟩ (hJ.1.2.1) ?_
        refine qv_iret (rfl) ?_
        exact fin
      · refine qW.blk rfl ?_
        refine qv_iload rfl ?_
        refine qv_table (rfl) (tgt := 3) rfl ?_
        refine qW.blk rfl ?_
        refine qv_aload rfl ?_
        refine qv_gr ly_8 ⟨rfl, rfl, rfl⟩ (by omega) ?_
        refine qv_gi ly_9 ⟨rfl, rfl, rfl⟩ (hJ.1.2.2.1) ?_
        refine qv_iret (rfl) ?_
        exact fin
      · refine qW.blk rfl ?_
        refine qv_iload rfl ?_
        refine qv_table (rfl) (tgt := 4) rfl ?_
        refine qW.blk rfl ?_
        refine qv_aload rfl ?_
        refine qv_gr ly_8 ⟨rfl, rfl, rfl⟩ (by omega) ?_
        refine qv_virt (ly_9.rcv _) sg_Chamber_allVoices rfl rfl (w_allVoices hP (by omega) hJ.1 hM ?_) 
        refine qv_iret (rfl) ?_
        exact fin
      · refine qW.blk rfl ?_
        refine qv_iload rfl ?_
        refine qv_table (rfl) (tgt := 5) rfl ?_
        refine qW.blk rfl ?_
        refine qv_aload rfl ?_
        refine qv_gr ly_8 ⟨rfl, rfl, rfl⟩ (by omega) ?_
        refine qv_gi ly_9 ⟨rfl, rfl, rfl⟩ (hJ.1.2.2.2.1) ?_
        refine qv_iret (rfl) ?_
        exact fin
      · refine qW.blk rfl ?_
        refine qv_iload rfl ?_
        refine qv_table (rfl) (tgt := 6) rfl ?_
        refine qW.blk rfl ?_
        refine qv_aload rfl ?_
        refine qv_gr ly_8 ⟨rfl, rfl, rfl⟩ (by omega) ?_
        refine qv_virt (ly_9.rcv _) sg_Chamber_allQuestions rfl rfl (w_allQuestions hP (by omega) hJ hA ?_) 
        refine qv_iret (rfl) ?_
        exact fin
      · refine qW.blk rfl ?_
        refine qv_iload rfl ?_
        refine qv_table (rfl) (tgt := 7) rfl ?_
        refine qW.blk rfl ?_
        refine qv_aload rfl ?_
        refine qv_gr ly_8 ⟨rfl, rfl, rfl⟩ (by omega) ?_
        refine qv_virt (ly_9.rcv _) sg_Chamber_allWeight rfl rfl (w_allWeight hP (by omega) hJ.1 hC ?_) 
        refine qv_iret (rfl) ?_
        exact fin
    · intro s Q hJ hk
      have fin := hk (uF s 163 0 0) hJ.thr ((qfr.rf s).uF (by omega))
      have h1 := hJ.thr (v := 0)
      refine qP.of (L := [_, _, _, _]) (by omega) (hP _ rfl) ms_Model_count rfl ?_
      show qW X PR (d - 1) (some .int) cd_Model_count 0 _ _ _ _
      rcases (show j = 0 ∨ j = 1 ∨ j = 2 ∨ j = 3 ∨ j = 4 ∨ j = 5 ∨ j = 6 by omega) with rfl | rfl | rfl | rfl | rfl | rfl | rfl
      · refine qW.blk rfl ?_
        refine qv_aload rfl ?_
        refine qv_iconst (v := 0) rfl ?_
        refine qv_pi ly_163 ⟨rfl, rfl, rfl⟩ (rfl) ?_
        refine qv_iconst (v := 0) rfl ?_
        refine qv_istore (L' := [_, _, _, _]) rfl ?_
        refine qv_iload rfl ?_
        refine qv_table (rfl) (tgt := 1) rfl ?_
        refine qW.blk rfl ?_
        refine qv_aload rfl ?_
        refine qv_gr ly_163 ⟨rfl, rfl, rfl⟩ (by omega) ?_
        refine qv_iconst (v := 0) rfl ?_
        refine qv_ia (j := 0) ly_164 rfl (by omega) (by decide) (h1.1 0 (by decide)) ?_
        refine qv_iret (rfl) ?_
        exact fin
      · refine qW.blk rfl ?_
        refine qv_aload rfl ?_
        refine qv_iconst (v := 0) rfl ?_
        refine qv_pi ly_163 ⟨rfl, rfl, rfl⟩ (rfl) ?_
        refine qv_iconst (v := 0) rfl ?_
        refine qv_istore (L' := [_, _, _, _]) rfl ?_
        refine qv_iload rfl ?_
        refine qv_table (rfl) (tgt := 2) rfl ?_
        refine qW.blk rfl ?_
        refine qv_aload rfl ?_
        refine qv_gr ly_163 ⟨rfl, rfl, rfl⟩ (by omega) ?_
        refine qv_iconst (v := 1) rfl ?_
        refine qv_ia (j := 1) ly_164 rfl (by omega) (by decide) (h1.1 1 (by decide)) ?_
        refine qv_iret (rfl) ?_
        exact fin
      · refine qW.blk rfl ?_
        refine qv_aload rfl ?_
        refine qv_iconst (v := 0) rfl ?_
        refine qv_pi ly_163 ⟨rfl, rfl, rfl⟩ (rfl) ?_
        refine qv_iconst (v := 0) rfl ?_
        refine qv_istore (L' := [_, _, _, _]) rfl ?_
        refine qv_iload rfl ?_
        refine qv_table (rfl) (tgt := 3) rfl ?_
        refine qW.blk rfl ?_
        refine qv_aload rfl ?_
        refine qv_gr ly_163 ⟨rfl, rfl, rfl⟩ (by omega) ?_
        refine qv_iconst (v := 2) rfl ?_
        refine qv_ia (j := 2) ly_164 rfl (by omega) (by decide) (h1.1 2 (by decide)) ?_
        refine qv_iret (rfl) ?_
        exact fin
      · have loop : ∀ (k m : Nat), m + k = aC A 2 → qW X PR (d - 1) (some .int) cd_Model_count 5 [some (.ref (163)), some (.int (nI 3)), some (.int (nI (sumN (fun m => aC A (20 + m)) m))), some (.int (nI m))] [] (uF s 163 0 0) Q := by
          intro k
          induction k with
          | zero =>
            intro m hm
            have e : m = aC A 2 := by omega
            subst e
            refine qW.blk rfl ?_
            refine qv_iload rfl ?_
            refine qv_aload rfl ?_
            refine qv_gr ly_163 ⟨rfl, rfl, rfl⟩ (by omega) ?_
            refine qv_iconst (v := 2) rfl ?_
            refine qv_ia (j := 2) ly_164 rfl (by omega) (by decide) (h1.1 2 (by decide)) ?_
            refine qv_icmp_geNt rfl rfl (by omega) (by omega) (by omega) (tgt := 7) rfl ?_
            refine qW.blk rfl ?_
            refine qv_iload rfl ?_
            refine qv_iret (rfl) ?_
            exact fin
          | succ k ih =>
            intro m hm
            refine qW.blk rfl ?_
            refine qv_iload rfl ?_
            refine qv_aload rfl ?_
            refine qv_gr ly_163 ⟨rfl, rfl, rfl⟩ (by omega) ?_
            refine qv_iconst (v := 2) rfl ?_
            refine qv_ia (j := 2) ly_164 rfl (by omega) (by decide) (h1.1 2 (by decide)) ?_
            refine qv_icmp_geNf rfl rfl (by omega) (by omega) (by omega) (nx := 6) rfl ?_
            refine qW.blk rfl ?_
            refine qv_iload rfl ?_
            refine qv_aload rfl ?_
            refine qv_gr ly_163 ⟨rfl, rfl, rfl⟩ (by omega) ?_
            refine qv_iconst (v := 20) rfl ?_
            refine qv_iload rfl ?_
            refine qv_iaddN (p := 20) rfl rfl ?_
            refine qv_ia ly_164 rfl (by omega) (by decide) (h1.1 (20 + m) (by omega)) ?_
            refine qv_iaddN rfl rfl ?_
            refine qv_istore (L' := [_, _, _, _]) rfl ?_
            refine qv_iinc (L' := [_, _, _, _]) rfl (nI_succ _).symm rfl ?_
            refine qv_goto (tgt := 5) rfl ?_
            exact ih (m + 1) (by omega)
        refine qW.blk rfl ?_
        refine qv_aload rfl ?_
        refine qv_iconst (v := 0) rfl ?_
        refine qv_pi ly_163 ⟨rfl, rfl, rfl⟩ (rfl) ?_
        refine qv_iconst (v := 0) rfl ?_
        refine qv_istore (L' := [_, _, _, _]) rfl ?_
        refine qv_iload rfl ?_
        refine qv_table (rfl) (tgt := 4) rfl ?_
        refine qW.blk rfl ?_
        refine qv_iconst (v := 0) rfl ?_
        refine qv_istore (L' := [_, _, _, _]) rfl ?_
        refine qv_nil (nx := 5) rfl ?_
        exact loop (aC A 2) 0 (by omega)
      · refine qW.blk rfl ?_
        refine qv_aload rfl ?_
        refine qv_iconst (v := 0) rfl ?_
        refine qv_pi ly_163 ⟨rfl, rfl, rfl⟩ (rfl) ?_
        refine qv_iconst (v := 0) rfl ?_
        refine qv_istore (L' := [_, _, _, _]) rfl ?_
        refine qv_iload rfl ?_
        refine qv_table (rfl) (tgt := 8) rfl ?_
        refine qW.blk rfl ?_
        refine qv_aload rfl ?_
        refine qv_gr ly_163 ⟨rfl, rfl, rfl⟩ (by omega) ?_
        refine qv_iconst (v := 3) rfl ?_
        refine qv_ia (j := 3) ly_164 rfl (by omega) (by decide) (h1.1 3 (by decide)) ?_
        refine qv_iret (rfl) ?_
        exact fin
      · have loop : ∀ (k m : Nat), m + k = aC A 3 → qW X PR (d - 1) (some .int) cd_Model_count 10 [some (.ref (163)), some (.int (nI 5)), some (.int (nI (sumN (fun t => (aT A t).2.2.2.2.1) m))), some (.int (nI m))] [] (uF s 163 0 0) Q := by
          intro k
          induction k with
          | zero =>
            intro m hm
            have e : m = aC A 3 := by omega
            subst e
            refine qW.blk rfl ?_
            refine qv_iload rfl ?_
            refine qv_aload rfl ?_
            refine qv_gr ly_163 ⟨rfl, rfl, rfl⟩ (by omega) ?_
            refine qv_iconst (v := 3) rfl ?_
            refine qv_ia (j := 3) ly_164 rfl (by omega) (by decide) (h1.1 3 (by decide)) ?_
            refine qv_icmp_geNt rfl rfl (by omega) (by omega) (by omega) (tgt := 12) rfl ?_
            refine qW.blk rfl ?_
            refine qv_iload rfl ?_
            refine qv_iret (rfl) ?_
            exact fin
          | succ k ih =>
            intro m hm
            refine qW.blk rfl ?_
            refine qv_iload rfl ?_
            refine qv_aload rfl ?_
            refine qv_gr ly_163 ⟨rfl, rfl, rfl⟩ (by omega) ?_
            refine qv_iconst (v := 3) rfl ?_
            refine qv_ia (j := 3) ly_164 rfl (by omega) (by decide) (h1.1 3 (by decide)) ?_
            refine qv_icmp_geNf rfl rfl (by omega) (by omega) (by omega) (nx := 11) rfl ?_
            refine qW.blk rfl ?_
            refine qv_iload rfl ?_
            refine qv_aload rfl ?_
            refine qv_gr ly_163 ⟨rfl, rfl, rfl⟩ (by omega) ?_
            refine qv_iload rfl ?_
            refine qv_ia ly_167 rfl (by omega) (by decide) ((h1.2.2.2.1 m (by omega)).2) ?_
            refine qv_iaddN rfl rfl ?_
            refine qv_istore (L' := [_, _, _, _]) rfl ?_
            refine qv_iinc (L' := [_, _, _, _]) rfl (nI_succ _).symm rfl ?_
            refine qv_goto (tgt := 10) rfl ?_
            exact ih (m + 1) (by omega)
        refine qW.blk rfl ?_
        refine qv_aload rfl ?_
        refine qv_iconst (v := 0) rfl ?_
        refine qv_pi ly_163 ⟨rfl, rfl, rfl⟩ (rfl) ?_
        refine qv_iconst (v := 0) rfl ?_
        refine qv_istore (L' := [_, _, _, _]) rfl ?_
        refine qv_iload rfl ?_
        refine qv_table (rfl) (tgt := 9) rfl ?_
        refine qW.blk rfl ?_
        refine qv_iconst (v := 0) rfl ?_
        refine qv_istore (L' := [_, _, _, _]) rfl ?_
        refine qv_nil (nx := 10) rfl ?_
        exact loop (aC A 3) 0 (by omega)
      · have loop : ∀ (k m : Nat), m + k = aC A 2 → qW X PR (d - 1) (some .int) cd_Model_count 14 [some (.ref (163)), some (.int (nI 6)), some (.int (nI (sumN (fun m => heftN (aC A (10 + m)) (aC A (20 + m)) (aC A (30 + m))) m))), some (.int (nI m))] [] (uF s 163 0 0) Q := by
          intro k
          induction k with
          | zero =>
            intro m hm
            have e : m = aC A 2 := by omega
            subst e
            refine qW.blk rfl ?_
            refine qv_iload rfl ?_
            refine qv_aload rfl ?_
            refine qv_gr ly_163 ⟨rfl, rfl, rfl⟩ (by omega) ?_
            refine qv_iconst (v := 2) rfl ?_
            refine qv_ia (j := 2) ly_164 rfl (by omega) (by decide) (h1.1 2 (by decide)) ?_
            refine qv_icmp_geNt rfl rfl (by omega) (by omega) (by omega) (tgt := 16) rfl ?_
            refine qW.blk rfl ?_
            refine qv_iload rfl ?_
            refine qv_iret (rfl) ?_
            exact fin
          | succ k ih =>
            intro m hm
            refine qW.blk rfl ?_
            refine qv_iload rfl ?_
            refine qv_aload rfl ?_
            refine qv_gr ly_163 ⟨rfl, rfl, rfl⟩ (by omega) ?_
            refine qv_iconst (v := 2) rfl ?_
            refine qv_ia (j := 2) ly_164 rfl (by omega) (by decide) (h1.1 2 (by decide)) ?_
            refine qv_icmp_geNf rfl rfl (by omega) (by omega) (by omega) (nx := 15) rfl ?_
            refine qW.blk rfl ?_
            refine qv_iload rfl ?_
            refine qv_aload rfl ?_
            refine qv_iload rfl ?_
            refine qv_virt (ly_163.rcv _) sg_Model_heftOf rfl rfl (w_M_heftOf hP (by omega) h1.1 hC (by omega) ?_) 
            refine qv_iaddN rfl rfl ?_
            refine qv_istore (L' := [_, _, _, _]) rfl ?_
            refine qv_iinc (L' := [_, _, _, _]) rfl (nI_succ _).symm rfl ?_
            refine qv_goto (tgt := 14) rfl ?_
            exact ih (m + 1) (by omega)
        refine qW.blk rfl ?_
        refine qv_aload rfl ?_
        refine qv_iconst (v := 0) rfl ?_
        refine qv_pi ly_163 ⟨rfl, rfl, rfl⟩ (rfl) ?_
        refine qv_iconst (v := 0) rfl ?_
        refine qv_istore (L' := [_, _, _, _]) rfl ?_
        refine qv_iload rfl ?_
        refine qv_table (rfl) (tgt := 13) rfl ?_
        refine qW.blk rfl ?_
        refine qv_iconst (v := 0) rfl ?_
        refine qv_istore (L' := [_, _, _, _]) rfl ?_
        refine qv_nil (nx := 14) rfl ?_
        exact loop (aC A 2) 0 (by omega)
  · have hn : ¬ (0 ≤ w ∧ w ≤ nI 6) := fun z => h0 ((in_nI (n := 6) (by omega)).mp z)
    refine ⟨.int (-1), A, hA, ?_, ?_⟩
    · intro s Q hJ hk
      refine qP.of (L := [_, _]) (by omega) (hP _ rfl) ms_Desk_count rfl ?_
      show qW X PR (d - 1) (some .int) cd_Desk_count 0 _ _ _ _
      refine qW.blk rfl ?_
      refine qv_iload rfl ?_
      refine qv_table (tab_o (n := 6) (by omega) hn) (tgt := 8) rfl ?_
      refine qW.blk rfl ?_
      refine qv_iconst (v := (-1)) rfl ?_
      refine qv_iret (rfl) ?_
      exact hk s hJ (cfr.rf s)
    · intro s Q hJ hk
      refine qP.of (L := [_, _, _, _]) (by omega) (hP _ rfl) ms_Model_count rfl ?_
      show qW X PR (d - 1) (some .int) cd_Model_count 0 _ _ _ _
      refine qW.blk rfl ?_
      refine qv_aload rfl ?_
      refine qv_iconst (v := 0) rfl ?_
      refine qv_pi ly_163 ⟨rfl, rfl, rfl⟩ (rfl) ?_
      refine qv_iconst (v := 0) rfl ?_
      refine qv_istore (L' := [_, _, _, _]) rfl ?_
      refine qv_iload rfl ?_
      refine qv_table (tab_o (n := 6) (by omega) hn) (tgt := 17) rfl ?_
      refine qW.blk rfl ?_
      refine qv_iconst (v := (-1)) rfl ?_
      refine qv_iret (rfl) ?_
      exact hk (uF s 163 0 0) hJ.thr ((qfr.rf s).uF (by omega))
end
