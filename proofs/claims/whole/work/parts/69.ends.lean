/-! the reference's end of a told TREE by a view; beat, stands, run, of, ifAll, finds are alike -/
theorem gval_ve {W W' : VW} {t : TR} {K : Nat} (h : veq (fun x => x < 7) W W') (hu : ∀ m, m < gN W → gK W m = 2 → gU W m < 6) (ht : tr_ok t K) : ∀ n, n < K → nve (gval W t n) (gval W' t n) ∧ nvD (fun x => x < 7) (gval W t n) := by
  intro n
  induction n using Nat.strongRecOn with
  | _ n ih =>
    intro hn
    obtain ⟨t1, t2, t3, t4⟩ := ht n hn
    rcases (show (t n).1 = 0 ∨ (t n).1 = 1 ∨ (t n).1 = 2 by omega) with h0 | h0 | h0
    · rw [gval_0 h0, gval_0 h0]
      exact ⟨nve.rf _, leaf_D (t2 h0)⟩
    · obtain ⟨l1, l2⟩ := t3 (by omega)
      rw [gval_1 ht hn h0, gval_1 ht hn h0]
      obtain ⟨a1, a2⟩ := ih _ l1 (by omega)
      obtain ⟨b1, b2⟩ := ih _ l2 (by omega)
      exact ⟨h.q hu a2 b2 a1 b1, gq_D a2 b2⟩
    · obtain ⟨l1, l2⟩ := t3 (by omega)
      rw [gval_2 ht hn h0, gval_2 ht hn h0]
      obtain ⟨a1, a2⟩ := ih _ l1 (by omega)
      obtain ⟨b1, b2⟩ := ih _ l2 (by omega)
      exact ⟨h.c (t4 h0).1 (t4 h0).2 a1 b1, gc_D a2 b2⟩
/-- what the reference's settling of a TREE changes -/
def efr (s s' : QST) : Prop := qfr 163 202 s s' ∧ (∀ c, ¬ (173 ≤ c ∧ c ≤ 177) → ¬ (184 ≤ c ∧ c ≤ 189) → qE s' c = qE s c) ∧ (∀ c, qL s' c = qL s c) ∧ ∀ k, k ≠ 15 → qF s' 163 k = qF s 163 k
theorem efr.rf (s : QST) : efr s s := ⟨qfr.rf s, fun _ _ _ => rfl, fun _ => rfl, fun _ _ => rfl⟩
theorem efr.trans {s t u : QST} (h : efr s t) (g : efr t u) : efr s u := ⟨h.1.trans g.1, fun c h1 h2 => (g.2.1 c h1 h2).trans (h.2.1 c h1 h2), fun c => (g.2.2.1 c).trans (h.2.2.1 c), fun k hk => (g.2.2.2 k hk).trans (h.2.2.2 k hk)⟩
theorem efr.r {s s' : QST} (h : efr s s') : rfr s s' := ⟨h.1, fun c hc => h.2.1 c (by omega) (by omega), h.2.2.1 201, fun k hk => h.2.2.2 k (by omega)⟩
/-- the reference's view is W, its numbers are well -/
def rview (s : QST) (N : Nat) (W : VW) : Prop := veq (fun x => x < 7) (rvw (qF s 163) (fun k => qE s (164 + k)) N) W ∧ v_ok (qF s 163) (fun k => qE s (164 + k)) N ∧ ∀ m, m < N → v_kin (qF s 163) (fun k => qE s (164 + k)) m = 2 → ∃ q, q < 6 ∧ qE s 164 (30 + m) = nI q
theorem rview.fr {s s' : QST} {N : Nat} {W : VW} (h : rview s N W) (h0 : qE s' 164 = qE s 164) (h1 : qE s' 182 = qE s 182) (h2 : qE s' 183 = qE s 183) (hi : ∀ k, k = 28 ∨ k = 29 ∨ k = 30 ∨ k = 31 ∨ k = 33 ∨ k = 34 ∨ k = 35 → qF s' 163 k = qF s 163 k) : rview s' N W := by
  have e0 : (fun k => qE s' (164 + k)) 0 = (fun k => qE s (164 + k)) 0 := h0
  have e18 : (fun k => qE s' (164 + k)) 18 = (fun k => qE s (164 + k)) 18 := h1
  have e19 : (fun k => qE s' (164 + k)) 19 = (fun k => qE s (164 + k)) 19 := h2
  have i28 := hi 28 (by omega)
  have i29 := hi 29 (by omega)
  have i30 := hi 30 (by omega)
  have i31 := hi 31 (by omega)
  have i33 := hi 33 (by omega)
  have i34 := hi 34 (by omega)
  have i35 := hi 35 (by omega)
  have ek : v_kin (qF s' 163) (fun k => qE s' (164 + k)) = v_kin (qF s 163) (fun k => qE s (164 + k)) := by
    rw [vcg_kin (a := fun k => qE s (164 + k)) (a' := fun k => qE s' (164 + k)) e0]; funext m; unfold v_kin; rw [i28, i33, i29]
  have ev : v_voi (qF s' 163) (fun k => qE s' (164 + k)) = v_voi (qF s 163) (fun k => qE s (164 + k)) := by
    rw [vcg_voi (a := fun k => qE s (164 + k)) (a' := fun k => qE s' (164 + k)) e0]; funext m; unfold v_voi; rw [i35]
  have ep : v_par (qF s' 163) (fun k => qE s' (164 + k)) = v_par (qF s 163) (fun k => qE s (164 + k)) := by
    rw [vcg_par (a := fun k => qE s (164 + k)) (a' := fun k => qE s' (164 + k)) e0]; funext m; unfold v_par; rw [i33]
  have ee : v_end (qF s' 163) (fun k => qE s' (164 + k)) = v_end (qF s 163) (fun k => qE s (164 + k)) := by
    rw [vcg_end (a := fun k => qE s (164 + k)) (a' := fun k => qE s' (164 + k)) e0]; funext m; unfold v_end; rw [i33, i34]
  have ew : v_wis (qF s' 163) (fun k => qE s' (164 + k)) = v_wis (qF s 163) (fun k => qE s (164 + k)) := by
    rw [vcg_wis (a := fun k => qE s (164 + k)) (a' := fun k => qE s' (164 + k)) e0 e18 e19]; funext m e; unfold v_wis; rw [i35, i31, i30]
  have em : v_mem (qF s' 163) (fun k => qE s' (164 + k)) = v_mem (qF s 163) (fun k => qE s (164 + k)) := by
    rw [vcg_mem (a := fun k => qE s (164 + k)) (a' := fun k => qE s' (164 + k)) e0]; unfold v_mem; rw [i35]
  have er : rvw (qF s' 163) (fun k => qE s' (164 + k)) N = rvw (qF s 163) (fun k => qE s (164 + k)) N := by
    unfold rvw; rw [ek, ev, ep, ee, ew, vcg_num (a := fun k => qE s (164 + k)) (a' := fun k => qE s' (164 + k)) e0, e0]
  obtain ⟨g1, g2, g3⟩ := h
  refine ⟨by rw [er]; exact g1, ?_, fun m hm hk => ?_⟩
  · unfold v_ok at g2 ⊢; rw [em, i35]; exact g2
  · rw [ek] at hk; rw [h0]; exact g3 m hm hk
theorem rview.e {s s' : QST} {N : Nat} {W : VW} (h : rview s N W) (F : efr s s') : rview s' N W := h.fr (F.2.1 _ (by omega) (by omega)) (F.2.1 _ (by omega) (by omega)) (F.2.1 _ (by omega) (by omega)) (fun k hk => F.2.2.2 k (by omega))
theorem rview.u {s : QST} {N : Nat} {W : VW} (h : rview s N W) (h164 : ∀ m, m < N → v_kin (qF s 163) (fun k => qE s (164 + k)) m = 2 → ∃ q, q < 6 ∧ qE s 164 (30 + m) = nI q) : ∀ m, m < gN (rvw (qF s 163) (fun k => qE s (164 + k)) N) → gK (rvw (qF s 163) (fun k => qE s (164 + k)) N) m = 2 → gU (rvw (qF s 163) (fun k => qE s (164 + k)) N) m < 6 := by
  intro m hm hk
  obtain ⟨q, h1, h2⟩ := h164 m hm hk
  show v_num (fun k => qE s (164 + k)) m < 6
  unfold v_num
  have e : (fun k => qE s (164 + k)) 0 (30 + m) = nI q := h2
  rw [e, nI_clamp (by omega)]
  exact h1
theorem rview_neu {s : QST} {C : Nat → Nat} (h : rC s 164 C) (hC : CB C) (hn : rneu s) : rview s (C 2) (cvw C) := by
  refine ⟨rvw_neu h hC hn, v_ok_C h hC.2.2.2.1 hn.2.2.2.2.2, fun m hm hk => ?_⟩
  have hM := hC.2.2.2.1
  rw [v_kin_0 h hn.1 (x := 0) (y := 0) hn.2.2.2.2.1 hn.2.1 (by decide) (by decide) (by omega), if_neg (btn0 m), if_neg (btn0 m)] at hk
  have hk2 := (nI_eq (a := C (10 + m)) (b := 2) (by have := (hC.2.2.2.2.2 m hm).1; omega) (by omega)).mp hk
  have c4 := (hC.2.2.2.2.2 m hm).2.2.2.1
  unfold mostN at c4
  rw [if_pos hk2] at c4
  exact ⟨C (30 + m), by omega, h _ (by omega)⟩
theorem tdE {D : TD} (h : tdOK D) : ∀ e, (sdb D.1 D.2.2.2.1 e ∨ akb D.1 D.2.2.2.1 e) → e < 7 := by
  obtain ⟨-, -, hp, -⟩ := h
  rintro e (⟨j, h1, h2, h3⟩ | ⟨j, h1, h2, h3⟩)
  · have := (hp j h1).2.1 h2; omega
  · have := (hp j h1).2.2.1 h2; omega
theorem nd_all.cg {a a' : Nat → Nat → Int32} {t : TR} {n : Nat} {v : NV} (h : nd_all a' t n v) (e : ∀ k, k < 37 → a k = a' k) : nd_all a t n v := by
  unfold nd_all nd_ok at h ⊢
  rw [e 20 (by decide), e 21 (by decide), e 22 (by decide), e 23 (by decide), e 24 (by decide), e 25 (by decide)]
  exact h
theorem tr_at.cg {a a' : Nat → Nat → Int32} {t : TR} {K : Nat} (h : tr_at a' t K) (e : ∀ k, 9 ≤ k ∧ k ≤ 13 → a k = a' k) : tr_at a t K := by
  unfold tr_at at h ⊢
  rw [e 9 (by omega), e 10 (by omega), e 11 (by omega), e 12 (by omega), e 13 (by omega)]
  exact h
section
variable {X : pm_X} {PR : pm_P} {s : QST} {Q : QPost}
/-- the end of a tree at hand (its nodes loaded) -/
theorem w_M_settle (hP : pm_np PR) {d : Nat} (hd : 8 ≤ d) {N : Nat} {W : VW} (hv : rview s N W) {K : Nat} {t : TR} (hK0 : 0 < K) (hK : K ≤ 110) (hi : qF s 163 15 = nI K) (ht : tr_ok t K) (hat : tr_at (fun k => qE s (164 + k)) t K) (hk : ∀ s', efr s s' → qF s' 163 15 = nI K → tr_at (fun k => qE s' (164 + k)) t K → (∀ n, n < K → ∃ v, nve v (gval W t n) ∧ nd_all (fun k => qE s' (164 + k)) t n v) → Q (some (.int (nI (gval W t (K - 1)).2.1))) s') : qP X PR d 201 [.ref 163] s Q := by
  obtain ⟨S', a', h1, h2, h3, h4, h5⟩ := r_Model_settle (X := X) hP hd (MR_hp s) hv.2.1 (fun m hm hk => hv.2.2 m hm hk) hK0 hK hi ht hat
  obtain ⟨s', rfl, g1, g2, g3, g4, g5, g6, g7⟩ := MR_back h2 h3
  have hne := gval_ve hv.1 (hv.u hv.2.2) ht
  have F : efr s s' := by
    refine ⟨g5, fun c c1 c2 => ?_, fun c => ?_, fun k _ => by rw [g1]⟩
    · by_cases hc : 164 ≤ c ∧ c ≤ 200
      · obtain ⟨k, rfl⟩ : ∃ k, c = 164 + k := ⟨c - 164, by omega⟩
        rw [g2 k (by omega), h4 k (by omega)]
      · exact g6 c hc
    · by_cases hc : c = 201
      · subst hc; exact g3
      · by_cases hc2 : c = 202
        · subst hc2; exact g4
        · exact g7 c hc hc2
  have e : ∀ k, k < 37 → (fun k => qE s' (164 + k)) k = a' k := fun k hk => g2 k hk
  have eN : nval (qF s 163) (fun k => qE s (164 + k)) N t = gval (rvw (qF s 163) (fun k => qE s (164 + k)) N) t := by funext n; exact rvw_val _ _ _ _ _
  refine ⟨_, s', h1, ?_⟩
  rw [eN, (hne (K - 1) (by omega)).1.2.1]
  refine hk s' F (by rw [g1]; exact hi) ?_ (fun n hn => ⟨_, (hne n hn).1, ?_⟩)
  · exact hat.cg (fun k hk => (e k (by omega)).trans (h4 k (by omega)))
  · rw [← eN]
    exact (h5 n hn).cg e
/-- the end of a told tree -/
theorem w_M_endOf (hP : pm_np PR) {d : Nat} (hd : 9 ≤ d) {N : Nat} {W : VW} (hv : rview s N W) {tt : Nat} (htt : tt < 12) {D : TD} (hD : tdOK D) (hT : rTD s tt D) (hk : ∀ s', efr s s' → qF s' 163 15 = nI D.2.2.2.1 → tr_at (fun k => qE s' (164 + k)) D.2.1 D.2.2.2.1 → (∀ n, n < D.2.2.2.1 → ∃ v, nve v (gval W D.2.1 n) ∧ nd_all (fun k => qE s' (164 + k)) D.2.1 n v) → Q (some (.int (nI (gval W D.2.1 (D.2.2.2.1 - 1)).2.1))) s') : qP X PR d 199 [.ref 163, .int (nI tt)] s Q := by
  obtain ⟨hK0, hK, -, htr, -⟩ := hD
  obtain ⟨S', a', h1, h2, h3, h4, h5, h6⟩ := r_Model_endOf (X := X) hP hd (MR_hp s) hv.2.1 (fun m hm hk => hv.2.2 m hm hk) htt hT.1
  obtain ⟨s', rfl, g1, g2, g3, g4, g5, g6, g7⟩ := MR_back h2 h3
  have hne := gval_ve hv.1 (hv.u hv.2.2) htr
  have F : efr s s' := by
    refine ⟨g5, fun c c1 c2 => ?_, fun c => ?_, fun k hk => by rw [g1]; simp [upd, hk]⟩
    · by_cases hc : 164 ≤ c ∧ c ≤ 200
      · obtain ⟨k, rfl⟩ : ∃ k, c = 164 + k := ⟨c - 164, by omega⟩
        rw [g2 k (by omega), h4 k (by omega) (by omega)]
      · exact g6 c hc
    · by_cases hc : c = 201
      · subst hc; exact g3
      · by_cases hc2 : c = 202
        · subst hc2; exact g4
        · exact g7 c hc hc2
  have e : ∀ k, k < 37 → (fun k => qE s' (164 + k)) k = a' k := fun k hk => g2 k hk
  have eN : nval (qF s 163) (fun k => qE s (164 + k)) N D.2.1 = gval (rvw (qF s 163) (fun k => qE s (164 + k)) N) D.2.1 := by funext n; exact rvw_val _ _ _ _ _
  refine ⟨_, s', h1, ?_⟩
  rw [eN, (hne (D.2.2.2.1 - 1) (by omega)).1.2.1]
  refine hk s' F (by rw [g1]; simp [upd]) ?_ (fun n hn => ⟨_, (hne n hn).1, ?_⟩)
  · exact h5.cg (fun k hk => e k (by omega))
  · rw [← eN]
    exact (h6 n hn).cg e
theorem r_M_std (hP : pm_np PR) {d : Nat} (hd : 6 ≤ d) {N : Nat} {W : VW} (hv : rview s N W) {x y : Nat} (hx : x < 7) (hy : y < 7) : pm_run X pm_Ms PR d 195 [.ref 163, .int (nI x), .int (nI y)] (qhp s) = some (some (.int (nI (gstd W x y))), qhp s) := by
  rw [r_Model_standing hP hd (MR_hp s) hv.2.1 hx hy, ← hv.1.std hx hy]; rfl
theorem r_M_bts (hP : pm_np PR) {d : Nat} (hd : 5 ≤ d) {N : Nat} {W : VW} (hv : rview s N W) {x y : Nat} (hx : x < 7) (hy : y < 7) : pm_run X pm_Ms PR d 196 [.ref 163, .int (nI x), .int (nI y)] (qhp s) = some (some (.int (bI (gbts W x y))), qhp s) := by
  have e : v_bts (qF s 163) (fun k => qE s (164 + k)) N x y ↔ gbts W x y := hv.1.bts hx hy
  rw [r_Model_beats hP hd (MR_hp s) hv.2.1 hx hy]
  unfold bI
  simp only [e]
theorem r_M_mar (hP : pm_np PR) {d : Nat} (hd : 4 ≤ d) {N : Nat} {W : VW} (hv : rview s N W) {x y : Nat} (hx : x < 7) (hy : y < 7) : pm_run X pm_Ms PR d 188 [.ref 163, .int (nI x), .int (nI y)] (qhp s) = some (some (.int (gmar W x y)), qhp s) := by
  rw [r_Model_margin hP hd (MR_hp s) hv.2.1 hx hy, ← hv.1.mar hx hy]; rfl
end
section
variable {X : pm_X} {PR : pm_P}
theorem Sim_beat (hP : pm_np PR) (x y : Int32) : Sim X PR 124 187 [.int x, .int y] := by
  intro d A hd hA
  have hC := hA.1
  by_cases h0 : (∃ i, i ≤ 6 ∧ x = nI i) ∧ ∃ j, j ≤ 6 ∧ y = nI j
  · obtain ⟨⟨i, hi, rfl⟩, j, hj, rfl⟩ := h0
    have ii : nI 0 ≤ nI i ∧ nI i ≤ nI 6 := (w_iff (by omega) (by omega) (by omega)).mpr ⟨by omega, hi⟩
    have ij : nI 0 ≤ nI j ∧ nI j ≤ nI 6 := (w_iff (by omega) (by omega) (by omega)).mpr ⟨by omega, hj⟩
    refine ⟨.int (gmar (cvw (aC A)) i j), A, hA, ?_, ?_⟩
    · intro s Q hJ hk
      refine qP.of (L := [_, _, _]) (by omega) (hP _ rfl) ms_Desk_beat rfl ?_
      show qW X PR (d - 1) (some .int) cd_Desk_beat 0 _ _ _ _
      refine qW.blk rfl ?_
      refine qv_iload rfl ?_
      refine qv_staticE sg_Desk_isEnd rfl (r_Desk_isEnd hP (by omega) (nI i) _) ?_
      refine qv_if_eq_f (bI_ne.mpr (ii)) (nx := 1) rfl ?_
      refine qW.blk rfl ?_
      refine qv_iload rfl ?_
      refine qv_staticE sg_Desk_isEnd rfl (r_Desk_isEnd hP (by omega) (nI j) _) ?_
      refine qv_if_ne_t (bI_ne.mpr (ij)) (tgt := 3) rfl ?_
      refine qW.blk rfl ?_
      refine qv_aload rfl ?_
      refine qv_gr ly_8 ⟨rfl, rfl, rfl⟩ (by omega) ?_
      refine qv_aload rfl ?_
      refine qv_gr ly_8 ⟨rfl, rfl, rfl⟩ (by omega) ?_
      refine qv_virt (ly_74.rcv _) sg_Hall_seat rfl rfl (w_Hall_seat hP (by omega) hJ.1 hC (fun s1 p F1 m1 v1 => ?_)) 
      refine qv_aload rfl ?_
      refine qv_gr ly_8 ⟨rfl, rfl, rfl⟩ (by omega) ?_
      refine qv_iload rfl ?_
      refine qv_iload rfl ?_
      refine qv_virtE (ly_74.rcv _) sg_Hall_margin rfl rfl (r_margin hP (by omega) (m1.ok v1) (by omega) (by omega)) ?_
      refine qv_top ((m1.ve v1).mar (show i < 7 by omega) (show j < 7 by omega)) ?_
      refine qv_iret (rfl) ?_
      exact hk _ (hJ.fr hA F1 (by omega)) (F1.c (by omega) (by omega))
    · intro s Q hJ hk
      refine qP.of (L := [_, _, _]) (by omega) (hP _ rfl) ms_Model_beat rfl ?_
      show qW X PR (d - 1) (some .int) cd_Model_beat 0 _ _ _ _
      refine qW.blk rfl ?_
      refine qv_aload rfl ?_
      refine qv_iconst (v := 0) rfl ?_
      refine qv_pi ly_163 ⟨rfl, rfl, rfl⟩ (rfl) ?_
      refine qv_iload rfl ?_
      refine qv_staticE sg_Model_isEnd rfl (r_Model_isEnd hP (by omega) (nI i) _) ?_
      refine qv_if_eq_f (bI_ne.mpr (ii)) (nx := 1) rfl ?_
      refine qW.blk rfl ?_
      refine qv_iload rfl ?_
      refine qv_staticE sg_Model_isEnd rfl (r_Model_isEnd hP (by omega) (nI j) _) ?_
      refine qv_if_eq_f (bI_ne.mpr (ij)) (nx := 2) rfl ?_
      refine qW.blk rfl ?_
      refine qv_aload rfl ?_
      refine qv_iload rfl ?_
      refine qv_iload rfl ?_
      refine qv_virtE (ly_163.rcv _) sg_Model_margin rfl rfl (r_M_mar hP (by omega) (rview_neu hJ.thr.1 hC hJ.thr.2.2.2.2.2) (by omega) (by omega)) ?_
      refine qv_goto (tgt := 4) rfl ?_
      refine qW.blk rfl ?_
      refine qv_iret (rfl) ?_
      exact hk _ hJ.thr ((qfr.rf s).uF (by omega))
  · refine ⟨.int (-1000000001), A, hA, ?_, ?_⟩
    · intro s Q hJ hk
      have fin := hk s hJ (cfr.rf s)
      refine qP.of (L := [_, _, _]) (by omega) (hP _ rfl) ms_Desk_beat rfl ?_
      show qW X PR (d - 1) (some .int) cd_Desk_beat 0 _ _ _ _
      by_cases hi : 0 ≤ x ∧ x ≤ nI 6
      · have hj : ¬ (0 ≤ y ∧ y ≤ nI 6) := fun z => h0 ⟨(in_nI (n := 6) (by omega)).mp hi, (in_nI (n := 6) (by omega)).mp z⟩
        refine qW.blk rfl ?_
        refine qv_iload rfl ?_
        refine qv_staticE sg_Desk_isEnd rfl (r_Desk_isEnd hP (by omega) x _) ?_
        refine qv_if_eq_f (bI_ne.mpr (hi)) (nx := 1) rfl ?_
        refine qW.blk rfl ?_
        refine qv_iload rfl ?_
        refine qv_staticE sg_Desk_isEnd rfl (r_Desk_isEnd hP (by omega) y _) ?_
        refine qv_if_ne_f (fun zq => zq (bI_f (hj))) (nx := 2) rfl ?_
        refine qW.blk rfl ?_
        refine qv_iconst (v := (-1000000001)) rfl ?_
        refine qv_iret (rfl) ?_
        exact fin
      · refine qW.blk rfl ?_
        refine qv_iload rfl ?_
        refine qv_staticE sg_Desk_isEnd rfl (r_Desk_isEnd hP (by omega) x _) ?_
        refine qv_if_eq_t (bI_f (hi)) (tgt := 2) rfl ?_
        refine qW.blk rfl ?_
        refine qv_iconst (v := (-1000000001)) rfl ?_
        refine qv_iret (rfl) ?_
        exact fin
    · intro s Q hJ hk
      have fin := hk (uF s 163 0 0) hJ.thr ((qfr.rf s).uF (by omega))
      refine qP.of (L := [_, _, _]) (by omega) (hP _ rfl) ms_Model_beat rfl ?_
      show qW X PR (d - 1) (some .int) cd_Model_beat 0 _ _ _ _
      by_cases hi : 0 ≤ x ∧ x ≤ nI 6
      · have hj : ¬ (0 ≤ y ∧ y ≤ nI 6) := fun z => h0 ⟨(in_nI (n := 6) (by omega)).mp hi, (in_nI (n := 6) (by omega)).mp z⟩
        refine qW.blk rfl ?_
        refine qv_aload rfl ?_
        refine qv_iconst (v := 0) rfl ?_
        refine qv_pi ly_163 ⟨rfl, rfl, rfl⟩ (rfl) ?_
        refine qv_iload rfl ?_
        refine qv_staticE sg_Model_isEnd rfl (r_Model_isEnd hP (by omega) x _) ?_
        refine qv_if_eq_f (bI_ne.mpr (hi)) (nx := 1) rfl ?_
        refine qW.blk rfl ?_
        refine qv_iload rfl ?_
        refine qv_staticE sg_Model_isEnd rfl (r_Model_isEnd hP (by omega) y _) ?_
        refine qv_if_eq_t (bI_f (hj)) (tgt := 3) rfl ?_
        refine qW.blk rfl ?_
        refine qv_iconst (v := (-1000000001)) rfl ?_
        refine qv_nil (nx := 4) rfl ?_
        refine qW.blk rfl ?_
        refine qv_iret (rfl) ?_
        exact fin
      · refine qW.blk rfl ?_
        refine qv_aload rfl ?_
        refine qv_iconst (v := 0) rfl ?_
        refine qv_pi ly_163 ⟨rfl, rfl, rfl⟩ (rfl) ?_
        refine qv_iload rfl ?_
        refine qv_staticE sg_Model_isEnd rfl (r_Model_isEnd hP (by omega) x _) ?_
        refine qv_if_eq_t (bI_f (hi)) (tgt := 3) rfl ?_
        refine qW.blk rfl ?_
        refine qv_iconst (v := (-1000000001)) rfl ?_
        refine qv_nil (nx := 4) rfl ?_
        refine qW.blk rfl ?_
        refine qv_iret (rfl) ?_
        exact fin
theorem Sim_stands (hP : pm_np PR) (x y : Int32) : Sim X PR 125 194 [.int x, .int y] := by
  intro d A hd hA
  have hC := hA.1
  by_cases h0 : (∃ i, i ≤ 6 ∧ x = nI i) ∧ ∃ j, j ≤ 6 ∧ y = nI j
  · obtain ⟨⟨i, hi, rfl⟩, j, hj, rfl⟩ := h0
    have ii : nI 0 ≤ nI i ∧ nI i ≤ nI 6 := (w_iff (by omega) (by omega) (by omega)).mpr ⟨by omega, hi⟩
    have ij : nI 0 ≤ nI j ∧ nI j ≤ nI 6 := (w_iff (by omega) (by omega) (by omega)).mpr ⟨by omega, hj⟩
    refine ⟨.int (nI (gstd (cvw (aC A)) i j)), A, hA, ?_, ?_⟩
    · intro s Q hJ hk
      refine qP.of (L := [_, _, _]) (by omega) (hP _ rfl) ms_Desk_stands rfl ?_
      show qW X PR (d - 1) (some .int) cd_Desk_stands 0 _ _ _ _
      refine qW.blk rfl ?_
      refine qv_iload rfl ?_
      refine qv_staticE sg_Desk_isEnd rfl (r_Desk_isEnd hP (by omega) (nI i) _) ?_
      refine qv_if_eq_f (bI_ne.mpr (ii)) (nx := 1) rfl ?_
      refine qW.blk rfl ?_
      refine qv_iload rfl ?_
      refine qv_staticE sg_Desk_isEnd rfl (r_Desk_isEnd hP (by omega) (nI j) _) ?_
      refine qv_if_ne_t (bI_ne.mpr (ij)) (tgt := 3) rfl ?_
      refine qW.blk rfl ?_
      refine qv_aload rfl ?_
      refine qv_gr ly_8 ⟨rfl, rfl, rfl⟩ (by omega) ?_
      refine qv_aload rfl ?_
      refine qv_gr ly_8 ⟨rfl, rfl, rfl⟩ (by omega) ?_
      refine qv_virt (ly_74.rcv _) sg_Hall_seat rfl rfl (w_Hall_seat hP (by omega) hJ.1 hC (fun s1 p F1 m1 v1 => ?_)) 
      refine qv_aload rfl ?_
      refine qv_gr ly_8 ⟨rfl, rfl, rfl⟩ (by omega) ?_
      refine qv_iload rfl ?_
      refine qv_iload rfl ?_
      refine qv_virtE (ly_74.rcv _) sg_Hall_better rfl rfl (r_better hP (by omega) (m1.ok v1) (by omega) (by omega)) ?_
      refine qv_top (congrArg nI ((m1.ve v1).std (show i < 7 by omega) (show j < 7 by omega))) ?_
      refine qv_iret (rfl) ?_
      exact hk _ (hJ.fr hA F1 (by omega)) (F1.c (by omega) (by omega))
    · intro s Q hJ hk
      refine qP.of (L := [_, _, _]) (by omega) (hP _ rfl) ms_Model_stands rfl ?_
      show qW X PR (d - 1) (some .int) cd_Model_stands 0 _ _ _ _
      refine qW.blk rfl ?_
      refine qv_aload rfl ?_
      refine qv_iconst (v := 0) rfl ?_
      refine qv_pi ly_163 ⟨rfl, rfl, rfl⟩ (rfl) ?_
      refine qv_iload rfl ?_
      refine qv_staticE sg_Model_isEnd rfl (r_Model_isEnd hP (by omega) (nI i) _) ?_
      refine qv_if_eq_f (bI_ne.mpr (ii)) (nx := 1) rfl ?_
      refine qW.blk rfl ?_
      refine qv_iload rfl ?_
      refine qv_staticE sg_Model_isEnd rfl (r_Model_isEnd hP (by omega) (nI j) _) ?_
      refine qv_if_eq_f (bI_ne.mpr (ij)) (nx := 2) rfl ?_
      refine qW.blk rfl ?_
      refine qv_aload rfl ?_
      refine qv_iload rfl ?_
      refine qv_iload rfl ?_
      refine qv_virtE (ly_163.rcv _) sg_Model_standing rfl rfl (r_M_std hP (by omega) (rview_neu hJ.thr.1 hC hJ.thr.2.2.2.2.2) (by omega) (by omega)) ?_
      refine qv_goto (tgt := 4) rfl ?_
      refine qW.blk rfl ?_
      refine qv_iret (rfl) ?_
      exact hk _ hJ.thr ((qfr.rf s).uF (by omega))
  · refine ⟨.int (-1), A, hA, ?_, ?_⟩
    · intro s Q hJ hk
      have fin := hk s hJ (cfr.rf s)
      refine qP.of (L := [_, _, _]) (by omega) (hP _ rfl) ms_Desk_stands rfl ?_
      show qW X PR (d - 1) (some .int) cd_Desk_stands 0 _ _ _ _
      by_cases hi : 0 ≤ x ∧ x ≤ nI 6
      · have hj : ¬ (0 ≤ y ∧ y ≤ nI 6) := fun z => h0 ⟨(in_nI (n := 6) (by omega)).mp hi, (in_nI (n := 6) (by omega)).mp z⟩
        refine qW.blk rfl ?_
        refine qv_iload rfl ?_
        refine qv_staticE sg_Desk_isEnd rfl (r_Desk_isEnd hP (by omega) x _) ?_
        refine qv_if_eq_f (bI_ne.mpr (hi)) (nx := 1) rfl ?_
        refine qW.blk rfl ?_
        refine qv_iload rfl ?_
        refine qv_staticE sg_Desk_isEnd rfl (r_Desk_isEnd hP (by omega) y _) ?_
        refine qv_if_ne_f (fun zq => zq (bI_f (hj))) (nx := 2) rfl ?_
        refine qW.blk rfl ?_
        refine qv_iconst (v := (-1)) rfl ?_
        refine qv_iret (rfl) ?_
        exact fin
      · refine qW.blk rfl ?_
        refine qv_iload rfl ?_
        refine qv_staticE sg_Desk_isEnd rfl (r_Desk_isEnd hP (by omega) x _) ?_
        refine qv_if_eq_t (bI_f (hi)) (tgt := 2) rfl ?_
        refine qW.blk rfl ?_
        refine qv_iconst (v := (-1)) rfl ?_
        refine qv_iret (rfl) ?_
        exact fin
    · intro s Q hJ hk
      have fin := hk (uF s 163 0 0) hJ.thr ((qfr.rf s).uF (by omega))
      refine qP.of (L := [_, _, _]) (by omega) (hP _ rfl) ms_Model_stands rfl ?_
      show qW X PR (d - 1) (some .int) cd_Model_stands 0 _ _ _ _
      by_cases hi : 0 ≤ x ∧ x ≤ nI 6
      · have hj : ¬ (0 ≤ y ∧ y ≤ nI 6) := fun z => h0 ⟨(in_nI (n := 6) (by omega)).mp hi, (in_nI (n := 6) (by omega)).mp z⟩
        refine qW.blk rfl ?_
        refine qv_aload rfl ?_
        refine qv_iconst (v := 0) rfl ?_
        refine qv_pi ly_163 ⟨rfl, rfl, rfl⟩ (rfl) ?_
        refine qv_iload rfl ?_
        refine qv_staticE sg_Model_isEnd rfl (r_Model_isEnd hP (by omega) x _) ?_
        refine qv_if_eq_f (bI_ne.mpr (hi)) (nx := 1) rfl ?_
        refine qW.blk rfl ?_
        refine qv_iload rfl ?_
        refine qv_staticE sg_Model_isEnd rfl (r_Model_isEnd hP (by omega) y _) ?_
        refine qv_if_eq_t (bI_f (hj)) (tgt := 3) rfl ?_
        refine qW.blk rfl ?_
        refine qv_iconst (v := (-1)) rfl ?_
        refine qv_nil (nx := 4) rfl ?_
        refine qW.blk rfl ?_
        refine qv_iret (rfl) ?_
        exact fin
      · refine qW.blk rfl ?_
        refine qv_aload rfl ?_
        refine qv_iconst (v := 0) rfl ?_
        refine qv_pi ly_163 ⟨rfl, rfl, rfl⟩ (rfl) ?_
        refine qv_iload rfl ?_
        refine qv_staticE sg_Model_isEnd rfl (r_Model_isEnd hP (by omega) x _) ?_
        refine qv_if_eq_t (bI_f (hi)) (tgt := 3) rfl ?_
        refine qW.blk rfl ?_
        refine qv_iconst (v := (-1)) rfl ?_
        refine qv_nil (nx := 4) rfl ?_
        refine qW.blk rfl ?_
        refine qv_iret (rfl) ?_
        exact fin
theorem Sim_run (hP : pm_np PR) (t : Int32) : Sim X PR 126 209 [.int t] := by
  intro d A hd hA
  have hC := hA.1
  have h12 := hC.2.2.2.2.1
  rcases pl_of t (aC A 3) with ⟨k, hk3, rfl⟩ | hn
  · have hD := hA.2.2.2.1 k hk3
    refine ⟨.int (nI (gval (cvw (aC A)) (aT A k).2.1 ((aT A k).2.2.2.1 - 1)).2.1), A, hA, ?_, ?_⟩
    · intro s Q hJ hk
      obtain ⟨T, hT1, hT2⟩ := hJ.2.2.2.1 k hk3
      refine qP.of (L := [_, _, _]) (by omega) (hP _ rfl) ms_Desk_run rfl ?_
      show qW X PR (d - 1) (some .int) cd_Desk_run 0 _ _ _ _
      refine qW.blk rfl ?_
      refine qv_aload rfl ?_
      refine qv_gr ly_8 ⟨rfl, rfl, rfl⟩ (by omega) ?_
      refine qv_iload rfl ?_
      refine qv_virtE (ly_9.rcv _) sg_Chamber_treeAt rfl rfl (r_treeAt_y hP (by omega) hJ.1.2.2.2.1 h12 hk3 hT1) ?_
      refine qv_astore (L' := [_, _, _]) rfl ?_
      refine qv_aload rfl ?_
      refine qv_nonnull_t (tgt := 2) rfl ?_
      refine qW.blk rfl ?_
      refine qv_aload rfl ?_
      refine qv_gr ly_8 ⟨rfl, rfl, rfl⟩ (by omega) ?_
      refine qv_aload rfl ?_
      refine qv_gr ly_8 ⟨rfl, rfl, rfl⟩ (by omega) ?_
      refine qv_virt (ly_74.rcv _) sg_Hall_seat rfl rfl (w_Hall_seat hP (by omega) hJ.1 hC (fun s1 p F1 m1 v1 => ?_)) 
      refine qv_aload rfl ?_
      refine qv_gr ly_8 ⟨rfl, rfl, rfl⟩ (by omega) ?_
      refine qv_aload rfl ?_
      refine qv_virt (ly_74.rcv _) sg_Hall_settle rfl rfl (w_settleT hP (by omega) (m1.ok v1) hD (by rw [F1.R]; exact hT2) (tdE hD) (m1.ve v1) (fun s2 F2 h2 => ?_)) 
      refine qv_iret (rfl) ?_
      exact hk _ (hJ.fr hA (F1.trans (F2.mono (by omega) (by omega))) (by omega)) ((F1.trans (F2.mono (by omega) (by omega))).c (by omega) (by omega))
    · intro s Q hJ hk
      refine qP.of (L := [_, _]) (by omega) (hP _ rfl) ms_Model_run rfl ?_
      show qW X PR (d - 1) (some .int) cd_Model_run 0 _ _ _ _
      refine qW.blk rfl ?_
      refine qv_aload rfl ?_
      refine qv_iconst (v := 0) rfl ?_
      refine qv_pi ly_163 ⟨rfl, rfl, rfl⟩ (rfl) ?_
      refine qv_aload rfl ?_
      refine qv_iload rfl ?_
      refine qv_virtE (ly_163.rcv _) sg_Model_isTree rfl rfl (r_M_isTree hP (by omega) (nI k) (hJ.thr.1 3 (by decide))) ?_
      refine qv_if_eq_f (bI_ne.mpr ((in_nI1 (by omega)).mpr ⟨k, hk3, rfl⟩)) (nx := 1) rfl ?_
      refine qW.blk rfl ?_
      refine qv_aload rfl ?_
      refine qv_iload rfl ?_
      refine qv_virt (ly_163.rcv _) sg_Model_endOf rfl rfl (w_M_endOf hP (by omega) (rview_neu hJ.thr.1 hC hJ.thr.2.2.2.2.2) (by omega) hD (hJ.thr.2.2.2.1 k hk3) (fun s1 F1 g1 g2 g3 => ?_)) 
      refine qv_goto (tgt := 3) rfl ?_
      refine qW.blk rfl ?_
      refine qv_iret (rfl) ?_
      exact hk _ (hJ.thr.fr F1.r) (((qfr.rf s).uF (by omega)).trans F1.1)
  · refine ⟨.int (-1), A, hA, ?_, ?_⟩
    · intro s Q hJ hk
      refine qP.of (L := [_, _, _]) (by omega) (hP _ rfl) ms_Desk_run rfl ?_
      show qW X PR (d - 1) (some .int) cd_Desk_run 0 _ _ _ _
      refine qW.blk rfl ?_
      refine qv_aload rfl ?_
      refine qv_gr ly_8 ⟨rfl, rfl, rfl⟩ (by omega) ?_
      refine qv_iload rfl ?_
      refine qv_virtE (ly_9.rcv _) sg_Chamber_treeAt rfl rfl (r_treeAt_n hP (by omega) hJ.1.2.2.2.1 h12 hn) ?_
      refine qv_astoreN (L' := [_, _, _]) rfl ?_
      refine qv_aloadN rfl ?_
      refine qv_nonnull_f (nx := 1) rfl ?_
      refine qW.blk rfl ?_
      refine qv_iconst (v := (-1)) rfl ?_
      refine qv_iret (rfl) ?_
      exact hk s hJ (cfr.rf s)
    · intro s Q hJ hk
      refine qP.of (L := [_, _]) (by omega) (hP _ rfl) ms_Model_run rfl ?_
      show qW X PR (d - 1) (some .int) cd_Model_run 0 _ _ _ _
      refine qW.blk rfl ?_
      refine qv_aload rfl ?_
      refine qv_iconst (v := 0) rfl ?_
      refine qv_pi ly_163 ⟨rfl, rfl, rfl⟩ (rfl) ?_
      refine qv_aload rfl ?_
      refine qv_iload rfl ?_
      refine qv_virtE (ly_163.rcv _) sg_Model_isTree rfl rfl (r_M_isTree hP (by omega) t (hJ.thr.1 3 (by decide))) ?_
      refine qv_if_eq_t (bI_f (fun z => hn ((in_nI1 (by omega)).mp z))) (tgt := 2) rfl ?_
      refine qW.blk rfl ?_
      refine qv_iconst (v := (-1)) rfl ?_
      refine qv_nil (nx := 3) rfl ?_
      refine qW.blk rfl ?_
      refine qv_iret (rfl) ?_
      exact hk (uF s 163 0 0) hJ.thr ((qfr.rf s).uF (by omega))
end
