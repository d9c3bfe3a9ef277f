/-! the class: who is seated; a told TREE is settled by a view -/
/-- the hall is as view W has it, p steps -/
def hm (s : QST) (W : VW) (p : Nat) : Prop := qF s 74 0 = nI (gN W) ∧ qF s 74 1 = gC W ∧ qF s 74 2 = nI p ∧ ∀ m, m < gN W → qF s (84 + 3 * m) 1 = gK W m ∧ qF s (84 + 3 * m) 2 = gV W m ∧ qF s (84 + 3 * m) 3 = gP W m ∧ qF s (84 + 3 * m) 4 = gE W m ∧ ∀ e, e < 7 → qE s (84 + 3 * m + 1) e = gW W m e
/-- a view that can be -/
def vok (W : VW) (p : Nat) : Prop := gN W ≤ 9 ∧ p ≤ 5 ∧ ∀ m, m < gN W → (∃ k, k ≤ 5 ∧ gK W m = nI k) ∧ (∃ k, k ≤ 9 ∧ gV W m = nI k) ∧ ((gK W m = 3 ∨ gK W m = 4) → ∃ q, q < 3 ∧ gP W m = nI q) ∧ (gK W m = 2 → gP W m = nI (gU W m) ∧ gU W m ≤ p)
theorem hm.ok {s : QST} {W : VW} {p : Nat} (h : hm s W p) (v : vok W p) : hok s (gN W) p := by
  obtain ⟨h1, h2, h3, h4⟩ := h
  obtain ⟨v1, v2, v3⟩ := v
  refine ⟨h1, v1, h3, v2, fun m hm => ?_⟩
  obtain ⟨g1, g2, g3, -⟩ := h4 m hm
  obtain ⟨w1, w2, w3, w4⟩ := v3 m hm
  rw [g1, g2, g3]
  exact ⟨w1, w2, w3, fun z => ⟨gU W m, (w4 z).2, (w4 z).1⟩⟩
theorem hm.ve {s : QST} {W : VW} {p : Nat} (h : hm s W p) (v : vok W p) : veq (fun x => x < 7) (hvw s (gN W)) W := by
  obtain ⟨h1, h2, h3, h4⟩ := h
  obtain ⟨v1, v2, v3⟩ := v
  refine ⟨rfl, h2, fun m hm => ?_⟩
  obtain ⟨g1, g2, g3, g4, g5⟩ := h4 m hm
  obtain ⟨w1, w2, w3, w4⟩ := v3 m hm
  refine ⟨g1, g2, fun _ => g3, fun z => ?_, fun _ => g4, fun x y hx hy => ?_⟩
  · have z' : gK W m = 2 := g1.symm.trans z
    show (qF s (84 + 3 * m) 3).toNatClampNeg = _
    rw [g3, (w4 z').1, nI_clamp (by have := (w4 z').2; omega)]
  · show sgn (qE s (84 + 3 * m + 1) x) (qE s (84 + 3 * m + 1) y) = _
    rw [g5 x hx, g5 y hy]
theorem hm.fr {s s' : QST} {W : VW} {p lo hi : Nat} (h : hm s W p) (F : qfr lo hi s s') (hr : (75 ≤ lo ∧ hi ≤ 83) ∨ hi < 74 ∨ 111 ≤ lo) (v : gN W ≤ 9) : hm s' W p := by
  obtain ⟨h1, h2, h3, h4⟩ := h
  refine ⟨by rw [F.f (by omega)]; exact h1, by rw [F.f (by omega)]; exact h2, by rw [F.f (by omega)]; exact h3, fun m hm => ?_⟩
  rw [F.F (c := 84 + 3 * m) (by omega), F.E (c := 84 + 3 * m + 1) (by omega)]
  exact h4 m hm
theorem nI_max {a b : Nat} (ha : a < 2 ^ 31) (hb : b < 2 ^ 31) : (if nI a < nI b then nI b else nI a) = nI (max a b) := by
  by_cases h : a < b
  · rw [if_pos (nI_lt h hb), Nat.max_eq_right (by omega)]
  · rw [if_neg (nI_nlt (by omega) ha), Nat.max_eq_left (by omega)]
theorem cvw_ok {C : Nat → Nat} (hC : CB C) {p : Nat} (hp : p ≤ 5) (h : ∀ m, m < C 2 → C (10 + m) = 2 → C (30 + m) ≤ p) : vok (cvw C) p := by
  refine ⟨hC.2.2.2.1, hp, fun m hm => ?_⟩
  obtain ⟨c1, c2, c3, c4, c5, c6, c7⟩ := hC.2.2.2.2.2 m hm
  have hn := hC.num hm
  refine ⟨⟨_, c1, rfl⟩, ⟨_, c3, rfl⟩, fun z => ?_, fun z => ⟨rfl, ?_⟩⟩
  · refine ⟨C (30 + m), ?_, rfl⟩
    have z' : C (10 + m) = 3 ∨ C (10 + m) = 4 := by
      rcases z with z | z
      · exact Or.inl ((nI_eq (a := C (10 + m)) (b := 3) (by omega) (by omega)).mp z)
      · exact Or.inr ((nI_eq (a := C (10 + m)) (b := 4) (by omega) (by omega)).mp z)
    unfold mostN at c4
    rw [if_neg (by omega), if_pos z'] at c4
    omega
  · exact h m hm ((nI_eq (a := C (10 + m)) (b := 2) (by omega) (by omega)).mp z)
section
variable {X : pm_X} {PR : pm_P} {s : QST} {Q : QPost}
theorem w_Hall_seatX (hP : pm_np PR) {d : Nat} (hd : 3 ≤ d) {C : Nat → Nat} (hc : cC s 9 C) (hC : CB C) (hk : ∀ s' p, qfr 74 110 s s' → hm s' (cvw C) p → vok (cvw C) p → qE s' 83 = qE s 83 → Q none s') : qP X PR d 12 [.ref 74, .ref 9] s Q := by
  have hM := hC.2.2.2.1
  obtain ⟨h0, h1, h2, h3, h4⟩ := hc
  refine qP.of (L := [_, _, _]) (by omega) (hP _ rfl) ms_Hall_seat rfl ?_
  show qW X PR (d - 1) (none) cd_Hall_seat 0 _ _ _ _
  have loop : ∀ (k m p : Nat) (s1 : QST), m + k = C 2 → p ≤ 5 → qfr 74 110 s s1 → qF s1 74 0 = nI (C 2) → qF s1 74 1 = nI (C 1) → qF s1 74 2 = nI p → (∀ j, j < m → cM s1 (84 + 3 * j) j C ∧ (C (10 + j) = 2 → C (30 + j) ≤ p)) → qE s1 83 = qE s 83 → qW X PR (d - 1) (none) cd_Hall_seat 1 [some (.ref (74)), some (.ref (9)), some (.int (nI m))] [] s1 Q := by
    intro k
    induction k with
    | zero =>
      intro m p s1 hm hp F1 g0 g1 g2 g3 g83
      have e : m = C 2 := by omega
      subst e
      refine qW.blk rfl ?_
      refine qv_iload rfl ?_
      refine qv_aload rfl ?_
      refine qv_gi ly_74 ⟨rfl, rfl, rfl⟩ (g0) ?_
      refine qv_icmp_geNt rfl rfl (by omega) (by omega) (by omega) (tgt := 5) rfl ?_
      refine qW.blk rfl ?_
      refine qv_ret rfl ?_
      refine hk s1 p F1 ⟨g0, g1, g2, fun j hj => ?_⟩ (cvw_ok hC hp (fun j hj => (g3 j hj).2)) g83
      obtain ⟨⟨m0, m1, m2, m3, m4, m5, m6⟩, -⟩ := g3 j hj
      exact ⟨m1, m2, m3, m4, fun e he => (m6 e he).1⟩
    | succ k ih =>
      intro m p s1 hm hp F1 g0 g1 g2 g3 g83
      have cm := h4 m (by omega)
      obtain ⟨c1, c2, c3, c4, c5, c6, c7⟩ := hC.2.2.2.2.2 m (by omega)
      have hn := hC.num (m := m) (by omega)
      have nxt : ∀ (p' : Nat) (s3 : QST), p ≤ p' → p' ≤ 5 → (C (10 + m) = 2 → C (30 + m) ≤ p') → qfr 74 110 s s3 → qF s3 74 0 = nI (C 2) → qF s3 74 1 = nI (C 1) → qF s3 74 2 = nI p' → (∀ j, j < m → cM s3 (84 + 3 * j) j C) → cM s3 (84 + 3 * m) m C → qE s3 83 = qE s 83 → qW X PR (d - 1) (none) cd_Hall_seat 4 [some (.ref (74)), some (.ref (9)), some (.int (nI m))] [] s3 Q := by
        intro p' s3 h1 h2 h3 F3 k0 k1 k2 k3 k4 k83
        refine qW.blk rfl ?_
        refine qv_iinc (L' := [_, _, _]) rfl (nI_succ _).symm rfl ?_
        refine qv_goto (tgt := 1) rfl ?_
        refine ih (m + 1) p' s3 (by omega) h2 F3 k0 k1 k2 (fun j hj => ?_) k83
        by_cases e : j = m
        · subst e; exact ⟨k4, h3⟩
        · exact ⟨k3 j (by omega), fun z => Nat.le_trans ((g3 j (by omega)).2 z) h1⟩
      have fin : ∀ s2, qfr (84 + 3 * m) (84 + 3 * m + 2) s1 s2 → (∀ q, q < 6 → qF s2 (84 + 3 * m) q = qF s1 (12 + 3 * m) q) → (∀ e, e < 7 → qE s2 (84 + 3 * m + 1) e = qE s1 (12 + 3 * m + 1) e ∧ qE s2 (84 + 3 * m + 2) e = qE s1 (12 + 3 * m + 2) e) → cM s2 (84 + 3 * m) m C := by
        intro s2 F2 x1 x2
        obtain ⟨m0, m1, m2, m3, m4, m5, m6⟩ := cm
        refine ⟨(x1 0 (by omega)).trans ((F1.f (by omega)).trans m0), (x1 1 (by omega)).trans ((F1.f (by omega)).trans m1), (x1 2 (by omega)).trans ((F1.f (by omega)).trans m2), (x1 3 (by omega)).trans ((F1.f (by omega)).trans m3), (x1 4 (by omega)).trans ((F1.f (by omega)).trans m4), (x1 5 (by omega)).trans ((F1.f (by omega)).trans m5), fun e he => ⟨?_, ?_⟩⟩
        · rw [(x2 e he).1, F1.e (by omega)]; exact (m6 e he).1
        · rw [(x2 e he).2, F1.e (by omega)]; exact (m6 e he).2
      by_cases hk2 : C (10 + m) = 2
      · refine qW.blk rfl ?_
        refine qv_iload rfl ?_
        refine qv_aload rfl ?_
        refine qv_gi ly_74 ⟨rfl, rfl, rfl⟩ (g0) ?_
        refine qv_icmp_geNf rfl rfl (by omega) (by omega) (by omega) (nx := 2) rfl ?_
        refine qW.blk rfl ?_
        refine qv_aload rfl ?_
        refine qv_gr ly_74 ⟨rfl, rfl, rfl⟩ (by omega) ?_
        refine qv_iload rfl ?_
        refine qv_aa (j := m) (r := 84 + 3 * m) ly_75 rfl (show _ < 9 by omega) (by decide) rfl ?_
        refine qv_aload rfl ?_
        refine qv_gr ly_9 ⟨rfl, rfl, rfl⟩ (by omega) ?_
        refine qv_iload rfl ?_
        refine qv_aa (j := m) (r := 12 + 3 * m) ly_10 rfl (show _ < 9 by omega) (by decide) rfl ?_
        refine qv_virt ((mb_seat (m := m) (by omega)).1.rcv _) sg_Member_takeOver rfl rfl (w_Member_takeOver hP (by omega) (mb_seat (m := m) (by omega)) (mb_now (m := m) (by omega)) (by omega) (fun s2 F2 x1 x2 => ?_))
        have cm2 := fin s2 F2 x1 x2
        have e2 : qF s2 (84 + 3 * m) 1 = 2 := by rw [cm2.2.1, hk2]; rfl
        refine qv_aload rfl ?_
        refine qv_gr ly_74 ⟨rfl, rfl, rfl⟩ (by omega) ?_
        refine qv_iload rfl ?_
        refine qv_aa (j := m) (r := 84 + 3 * m) ly_75 rfl (show _ < 9 by omega) (by decide) rfl ?_
        refine qv_gi (mb_seat (m := m) (by omega)).1 ⟨rfl, rfl, rfl⟩ e2 ?_
        refine qv_iconst (v := 2) rfl ?_
        refine qv_icmp_ne_f (fun z => z rfl) (nx := 3) rfl ?_
        have b3 : qW X PR (d - 1) (none) cd_Hall_seat 3 [some (.ref (74)), some (.ref (9)), some (.int (nI m))] [] s2 Q := by
          have hmx : max p (C (30 + m)) ≤ 5 := by
            unfold mostN at c4
            rw [if_pos hk2] at c4
            omega
          refine qW.blk rfl ?_
          refine qv_aload rfl ?_
          refine qv_aload rfl ?_
          refine qv_gi ly_74 ⟨rfl, rfl, rfl⟩ ((F2.f (by omega)).trans g2) ?_
          refine qv_aload rfl ?_
          refine qv_gr ly_74 ⟨rfl, rfl, rfl⟩ (by omega) ?_
          refine qv_iload rfl ?_
          refine qv_aa (j := m) (r := 84 + 3 * m) ly_75 rfl (show _ < 9 by omega) (by decide) rfl ?_
          refine qv_gi (mb_seat (m := m) (by omega)).1 ⟨rfl, rfl, rfl⟩ (cm2.2.2.2.1) ?_
          refine qv_max (Nat.le_of_ble_eq_true rfl) ?_
          refine qv_top (nI_max (by omega) (by omega)) ?_
          refine qv_pi ly_74 ⟨rfl, rfl, rfl⟩ (rfl) ?_
          refine qv_nil (nx := 4) rfl ?_
          refine nxt (max p (C (30 + m))) _ (by omega) hmx (fun _ => by omega) ((F1.trans (F2.mono (by omega) (by omega))).uF (by omega)) ?_ ?_ ?_ (fun j hj => ?_) (cm2.cg (qF_uFc (by omega)) rfl rfl) ((F2.E (by omega)).trans g83)
          · rw [qF_uFk (by omega), F2.f (by omega)]; exact g0
          · rw [qF_uFk (by omega), F2.f (by omega)]; exact g1
          · rw [qF_uFs]
          · exact (g3 j hj).1.cg ((qF_uFc (by omega)).trans (F2.F (by omega))) (F2.E (by omega)) (F2.E (by omega))
        exact b3
      · refine qW.blk rfl ?_
        refine qv_iload rfl ?_
        refine qv_aload rfl ?_
        refine qv_gi ly_74 ⟨rfl, rfl, rfl⟩ (g0) ?_
        refine qv_icmp_geNf rfl rfl (by omega) (by omega) (by omega) (nx := 2) rfl ?_
        refine qW.blk rfl ?_
        refine qv_aload rfl ?_
        refine qv_gr ly_74 ⟨rfl, rfl, rfl⟩ (by omega) ?_
        refine qv_iload rfl ?_
        refine qv_aa (j := m) (r := 84 + 3 * m) ly_75 rfl (show _ < 9 by omega) (by decide) rfl ?_
        refine qv_aload rfl ?_
        refine qv_gr ly_9 ⟨rfl, rfl, rfl⟩ (by omega) ?_
        refine qv_iload rfl ?_
        refine qv_aa (j := m) (r := 12 + 3 * m) ly_10 rfl (show _ < 9 by omega) (by decide) rfl ?_
        refine qv_virt ((mb_seat (m := m) (by omega)).1.rcv _) sg_Member_takeOver rfl rfl (w_Member_takeOver hP (by omega) (mb_seat (m := m) (by omega)) (mb_now (m := m) (by omega)) (by omega) (fun s2 F2 x1 x2 => ?_))
        have cm2 := fin s2 F2 x1 x2
        refine qv_aload rfl ?_
        refine qv_gr ly_74 ⟨rfl, rfl, rfl⟩ (by omega) ?_
        refine qv_iload rfl ?_
        refine qv_aa (j := m) (r := 84 + 3 * m) ly_75 rfl (show _ < 9 by omega) (by decide) rfl ?_
        refine qv_gi (mb_seat (m := m) (by omega)).1 ⟨rfl, rfl, rfl⟩ cm2.2.1 ?_
        refine qv_iconst (v := 2) rfl ?_
        refine qv_icmp_ne_t (fun z => hk2 ((nI_eq (a := C (10 + m)) (b := 2) (by omega) (by omega)).mp z)) (tgt := 4) rfl ?_
        refine nxt p s2 (Nat.le_refl _) hp (fun z => absurd z hk2) (F1.trans (F2.mono (by omega) (by omega))) ?_ ?_ ?_ (fun j hj => ?_) cm2 ((F2.E (by omega)).trans g83)
        · rw [F2.f (by omega)]; exact g0
        · rw [F2.f (by omega)]; exact g1
        · rw [F2.f (by omega)]; exact g2
        · exact (g3 j hj).1.cg (F2.F (by omega)) (F2.E (by omega)) (F2.E (by omega))
  refine qW.blk rfl ?_
  refine qv_aload rfl ?_
  refine qv_aload rfl ?_
  refine qv_gi ly_9 ⟨rfl, rfl, rfl⟩ (h2) ?_
  refine qv_pi ly_74 ⟨rfl, rfl, rfl⟩ (rfl) ?_
  refine qv_aload rfl ?_
  refine qv_aload rfl ?_
  refine qv_gi ly_9 ⟨rfl, rfl, rfl⟩ (h1) ?_
  refine qv_pi ly_74 ⟨rfl, rfl, rfl⟩ (rfl) ?_
  refine qv_aload rfl ?_
  refine qv_iconst (v := 0) rfl ?_
  refine qv_pi ly_74 ⟨rfl, rfl, rfl⟩ (rfl) ?_
  refine qv_iconst (v := 0) rfl ?_
  refine qv_istore (L' := [_, _, _]) rfl ?_
  refine qv_nil (nx := 1) rfl ?_
  refine loop (C 2) 0 0 _ (by omega) (by omega) ((((qfr.rf s).uF (by omega)).uF (by omega)).uF (by omega)) ?_ ?_ ?_ (fun j hj => by omega) rfl
  · rw [qF_uFk (by omega), qF_uFk (by omega), qF_uFs]
  · rw [qF_uFk (by omega), qF_uFs]
  · rw [qF_uFs]; rfl
theorem w_Hall_seat (hP : pm_np PR) {d : Nat} (hd : 3 ≤ d) {C : Nat → Nat} (hc : cC s 9 C) (hC : CB C) (hk : ∀ s' p, qfr 74 110 s s' → hm s' (cvw C) p → vok (cvw C) p → Q none s') : qP X PR d 12 [.ref 74, .ref 9] s Q := w_Hall_seatX hP hd hc hC (fun s' p h1 h2 h3 _ => hk s' p h1 h2 h3)
theorem wAll_ok {W : VW} {p k : Nat} (h : vok W p) (hk : k < 2) : vok (wAll W k) p := by
  obtain ⟨v1, v2, v3⟩ := h
  refine ⟨v1, v2, fun m hm => ⟨⟨k, by omega, rfl⟩, (v3 m hm).2.1, fun z => ?_, fun z => ?_⟩⟩
  · rcases z with z | z
    · have := (nI_eq (a := k) (b := 3) (by omega) (by omega)).mp z; omega
    · have := (nI_eq (a := k) (b := 4) (by omega) (by omega)).mp z; omega
  · have := (nI_eq (a := k) (b := 2) (by omega) (by omega)).mp z; omega
theorem w_Hall_makeAllX (hP : pm_np PR) {d : Nat} (hd : 1 ≤ d) {W : VW} {p k : Nat} (h : hm s W p) (hN : gN W ≤ 9) (hk : ∀ s', qfr 84 110 s s' → hm s' (wAll W k) p → Q none s') : qP X PR d 26 [.ref 74, .int (nI k)] s Q := by
  obtain ⟨h1, h2, h3, h4⟩ := h
  refine qP.of (L := [_, _, _]) (by omega) (hP _ rfl) ms_Hall_makeAll rfl ?_
  show qW X PR (d - 1) (none) cd_Hall_makeAll 0 _ _ _ _
  have loop : ∀ (q m : Nat) (s1 : QST), m + q = gN W → qfr 84 110 s s1 → (∀ j, j < m → qF s1 (84 + 3 * j) 1 = nI k) → (∀ j, j < gN W → (∀ i, i ≠ 1 → qF s1 (84 + 3 * j) i = qF s (84 + 3 * j) i) ∧ qE s1 (84 + 3 * j + 1) = qE s (84 + 3 * j + 1)) → qW X PR (d - 1) (none) cd_Hall_makeAll 1 [some (.ref (74)), some (.int (nI k)), some (.int (nI m))] [] s1 Q := by
    intro q
    induction q with
    | zero =>
      intro m s1 hm F1 g1 g2
      have e : m = gN W := by omega
      subst e
      refine qW.blk rfl ?_
      refine qv_iload rfl ?_
      refine qv_aload rfl ?_
      refine qv_gi ly_74 ⟨rfl, rfl, rfl⟩ ((F1.f (by omega)).trans h1) ?_
      refine qv_icmp_geNt rfl rfl (by omega) (by omega) (by omega) (tgt := 3) rfl ?_
      refine qW.blk rfl ?_
      refine qv_ret rfl ?_
      refine hk s1 F1 ⟨(F1.f (by omega)).trans h1, (F1.f (by omega)).trans h2, (F1.f (by omega)).trans h3, fun j hj => ?_⟩
      obtain ⟨x1, x2⟩ := g2 j hj
      obtain ⟨y1, y2, y3, y4, y5⟩ := h4 j hj
      exact ⟨g1 j hj, (x1 2 (by omega)).trans y2, (x1 3 (by omega)).trans y3, (x1 4 (by omega)).trans y4, fun e he => by rw [x2]; exact y5 e he⟩
    | succ q ih =>
      intro m s1 hm F1 g1 g2
      refine qW.blk rfl ?_
      refine qv_iload rfl ?_
      refine qv_aload rfl ?_
      refine qv_gi ly_74 ⟨rfl, rfl, rfl⟩ ((F1.f (by omega)).trans h1) ?_
      refine qv_icmp_geNf rfl rfl (by omega) (by omega) (by omega) (nx := 2) rfl ?_
      refine qW.blk rfl ?_
      refine qv_aload rfl ?_
      refine qv_gr ly_74 ⟨rfl, rfl, rfl⟩ (by omega) ?_
      refine qv_iload rfl ?_
      refine qv_aa (j := m) (r := 84 + 3 * m) ly_75 rfl (show _ < 9 by omega) (by decide) rfl ?_
      refine qv_iload rfl ?_
      refine qv_pi (mb_seat (m := m) (by omega)).1 ⟨rfl, rfl, rfl⟩ (rfl) ?_
      refine qv_iinc (L' := [_, _, _]) rfl (nI_succ _).symm rfl ?_
      refine qv_goto (tgt := 1) rfl ?_
      refine ih (m + 1) _ (by omega) (F1.uF (by omega)) (fun j hj => ?_) (fun j hj => ⟨fun i hi => ?_, (g2 j hj).2⟩)
      · by_cases e : j = m
        · subst e; rw [qF_uFs]
        · rw [qF_uFc (by omega)]; exact g1 j (by omega)
      · rw [qF_uF, if_neg (by omega)]; exact (g2 j hj).1 i hi
  refine qW.blk rfl ?_
  refine qv_iconst (v := 0) rfl ?_
  refine qv_istore (L' := [_, _, _]) rfl ?_
  refine qv_nil (nx := 1) rfl ?_
  exact loop (gN W) 0 s (by omega) (qfr.rf s) (fun j hj => by omega) (fun j hj => ⟨fun _ _ => rfl, rfl⟩)
theorem w_Hall_makeAll (hP : pm_np PR) {d : Nat} (hd : 1 ≤ d) {W : VW} {p k : Nat} (h : hm s W p) (hN : gN W ≤ 9) (hk : ∀ s', qfr 74 110 s s' → hm s' (wAll W k) p → Q none s') : qP X PR d 26 [.ref 74, .int (nI k)] s Q := w_Hall_makeAllX hP hd h hN (fun s' h1 h2 => hk s' (h1.mono (by omega) (by omega)) h2)
/-- the values of a told TREE by a view are the hall's -/
theorem ceq_of {W0 W : VW} {D : TD} {E : Nat → Prop} (hD : tdOK D) (hE : ∀ e, (sdb D.1 D.2.2.2.1 e ∨ akb D.1 D.2.2.2.1 e) → E e) (hv : veq E W0 W) (hu : ∀ m, m < gN W0 → gK W0 m = 2 → gU W0 m < 6) : ceq W0 D.1 D.2.2.2.1 (fun n => gval W D.2.1 (D.2.2.1 n)) ∧ ∀ n, n < D.2.2.2.1 → nvD E (gval W D.2.1 (D.2.2.1 n)) := by
  obtain ⟨hK0, hK, hpre, htr, ⟨i1, i2, i3, i4⟩, -⟩ := hD
  have hD' : ∀ k n, n + k = D.2.2.2.1 → n < D.2.2.2.1 → nvD E (gval W D.2.1 (D.2.2.1 n)) := by
    intro k
    induction k using Nat.strongRecOn with
    | _ k ih =>
      intro n hn hnK
      obtain ⟨p1, p2, p3, p4⟩ := hpre n hnK
      obtain ⟨u1, u2, u3, u4, u5⟩ := i4 n hnK
      rcases (show (D.1 n).1 = 0 ∨ (D.1 n).1 = 1 ∨ (D.1 n).1 = 2 by omega) with h0 | h0 | h0
      · rw [gval_0 (u1.trans h0), u2 (by omega)]
        exact leaf_D (hE _ (Or.inl ⟨n, hnK, h0, rfl⟩))
      · obtain ⟨q1, q2, q3⟩ := p4 (by omega)
        rw [gval_1 htr (i2 n hnK) (u1.trans h0), (u4 (by omega)).1, (u4 (by omega)).2]
        exact gq_D (ih (D.2.2.2.1 - (n + 1)) (by omega) (n + 1) (by omega) q1) (ih (D.2.2.2.1 - (D.1 n).2.2.1) (by omega) _ (by omega) q3)
      · obtain ⟨q1, q2, q3⟩ := p4 (by omega)
        rw [gval_2 htr (i2 n hnK) (u1.trans h0), (u4 (by omega)).1, (u4 (by omega)).2]
        exact gc_D (ih (D.2.2.2.1 - (n + 1)) (by omega) (n + 1) (by omega) q1) (ih (D.2.2.2.1 - (D.1 n).2.2.1) (by omega) _ (by omega) q3)
  have hD'' : ∀ n, n < D.2.2.2.1 → nvD E (gval W D.2.1 (D.2.2.1 n)) := fun n hn => hD' (D.2.2.2.1 - n) n (by omega) hn
  refine ⟨fun n hn => ?_, hD''⟩
  obtain ⟨p1, p2, p3, p4⟩ := hpre n hn
  obtain ⟨u1, u2, u3, u4, u5⟩ := i4 n hn
  refine ⟨fun h0 => ?_, fun h0 => ?_, fun h0 => ?_⟩
  · show nve _ (gval W D.2.1 (D.2.2.1 n))
    rw [gval_0 (u1.trans h0), u2 (by omega)]
    exact nve.rf _
  · obtain ⟨q1, q2, q3⟩ := p4 (by omega)
    show nve (gq W0 (gval W D.2.1 (D.2.2.1 (n + 1))) (gval W D.2.1 (D.2.2.1 (D.1 n).2.2.1))) (gval W D.2.1 (D.2.2.1 n))
    rw [gval_1 htr (i2 n hn) (u1.trans h0), (u4 (by omega)).1, (u4 (by omega)).2]
    exact hv.q hu (hD'' _ q1) (hD'' _ q3) (nve.rf _) (nve.rf _)
  · obtain ⟨q1, q2, q3⟩ := p4 (by omega)
    show nve (gc W0 (D.1 n).2.2.2.1 (D.1 n).2.2.2.2 (gval W D.2.1 (D.2.2.1 (n + 1))) (gval W D.2.1 (D.2.2.1 (D.1 n).2.2.1))) (gval W D.2.1 (D.2.2.1 n))
    rw [gval_2 htr (i2 n hn) (u1.trans h0), (u4 (by omega)).1, (u4 (by omega)).2, u2 (by omega), u3 h0]
    exact hv.c (hE _ (Or.inr ⟨n, hn, h0, Or.inl rfl⟩)) (hE _ (Or.inr ⟨n, hn, h0, Or.inr rfl⟩)) (nve.rf _) (nve.rf _)
theorem hok.u {s : QST} {N p : Nat} (h : hok s N p) : ∀ m, m < gN (hvw s N) → gK (hvw s N) m = 2 → gU (hvw s N) m < 6 := by
  intro m hm hk
  obtain ⟨-, -, -, hp, h5⟩ := h
  obtain ⟨q, h1, h2⟩ := (h5 m hm).2.2.2 hk
  show (qF s (84 + 3 * m) 3).toNatClampNeg < 6
  rw [h2, nI_clamp (by omega)]
  omega
theorem w_settleT (hP : pm_np PR) {d : Nat} (hd : 5 ≤ d) {N p T : Nat} (hh : hok s N p) {D : TD} (hD : tdOK D) (hT : cTD (qR s) T D) {W : VW} {E : Nat → Prop} (hE : ∀ e, (sdb D.1 D.2.2.2.1 e ∨ akb D.1 D.2.2.2.1 e) → E e) (hv : veq E (hvw s N) W) (hk : ∀ s', qfr 76 82 s s' → (∀ n, n < D.2.2.2.1 → hna s' p D.1 n (gval W D.2.1 (D.2.2.1 n))) → Q (some (.int (nI (gval W D.2.1 (D.2.2.2.1 - 1)).2.1))) s') : qP X PR d 13 [.ref 74, .ref T] s Q := by
  obtain ⟨w, sc, pr, hT1, hT2⟩ := hT
  obtain ⟨c1, c2⟩ := ceq_of hD hE hv hh.u
  refine w_Hall_settle hP hd hh hT1 hD.1 hD.2.1 hT2 c1 (fun s' F h => ?_)
  show Q (some (.int (nI (gval W D.2.1 (D.2.2.1 0)).2.1))) s'
  rw [hD.2.2.2.2.1.1]
  exact hk s' F h
end
