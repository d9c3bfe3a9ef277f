/-! the class: a QUESTION is settled, a TREE is settled -/
section
variable {X : pm_X} {PR : pm_P} {s : QST} {N p : Nat} {Q : QPost}
theorem r_better (hP : pm_np PR) {d : Nat} (hd : 3 ≤ d) (hh : hok s N p) {x y : Nat} (hx : x < 7) (hy : y < 7) : pm_run X pm_Ms PR d 20 [.ref 74, .int (nI x), .int (nI y)] (qhp s) = some (some (.int (nI (gstd (hvw s N) x y))), qhp s) := r_Hall_better hP hd (HR_hp s) hh.1 hh.2.1 (fun m hm => (hh.2.2.2.2 m hm).2.1) hx hy
theorem r_beats (hP : pm_np PR) {d : Nat} (hd : 4 ≤ d) (hh : hok s N p) {x y : Nat} (hx : x < 7) (hy : y < 7) : pm_run X pm_Ms PR d 22 [.ref 74, .int (nI x), .int (nI y)] (qhp s) = some (some (.int (bI (gbts (hvw s N) x y))), qhp s) := r_Hall_beats hP hd (HR_hp s) hh.1 hh.2.1 (fun m hm => (hh.2.2.2.2 m hm).2.1) hx hy
theorem r_margin (hP : pm_np PR) {d : Nat} (hd : 2 ≤ d) (hh : hok s N p) {x y : Nat} (hx : x < 7) (hy : y < 7) : pm_run X pm_Ms PR d 21 [.ref 74, .int (nI x), .int (nI y)] (qhp s) = some (some (.int (gmar (hvw s N) x y)), qhp s) := r_Hall_margin hP hd (HR_hp s) hh.1 hh.2.1 hx hy
theorem r_chairsOf (hP : pm_np PR) {d : Nat} (hd : 1 ≤ d) {x y : Nat} (hx : x < 7) (hy : y < 7) : pm_run X pm_Ms PR d 19 [.ref 74, .int (nI x), .int (nI y)] (qhp s) = some (some (.int (nI (if qF s 74 1 = 0 then min x y else max x y))), qhp s) := r_Hall_chairsOf hP hd (HR_hp s) hx hy
theorem gstd_lt {W : VW} {x y : Nat} (hx : x < 7) (hy : y < 7) : gstd W x y < 7 := by
  rcases gstd_or (W := W) (x := x) (y := y) with e | e <;> omega
theorem hnf.s81' {n e j : Nat} {s t : QST} {v : Int32} (h : hnf n s t) (hn : n < 64) (hj : j = 64 * e + n) : hnf n s (uE t 81 j v) := by
  subst hj; exact h.s81 hn
theorem chair_fst {ch : Int32} {x y : Nat} : ((if ch = 0 then min x y else max x y) = x) ↔ (x = y ∨ bI (x < y) = bI (ch = 0)) := by
  by_cases h : ch = 0
  · rw [if_pos h, bI_t h]
    by_cases h2 : x < y
    · rw [bI_t h2]; simp; omega
    · rw [bI_f h2]; simp; omega
  · rw [if_neg h, bI_f h]
    by_cases h2 : x < y
    · rw [bI_t h2]; simp; omega
    · rw [bI_f h2]; simp; omega
theorem w_Hall_settleQuestion (hP : pm_np PR) {d : Nat} (hd : 4 ≤ d) (hh : hok s N p) {n A B : Nat} (hn : n < 64) {vA vB : NV} (hA : hnd s p A vA) (hB : hnd s p B vB) (hAn : A ≠ n) (hBn : B ≠ n) (hk : ∀ s', qfr 76 82 s s' → hnf n s s' → hnd s' p n (gq (hvw s N) vA vB) → qE s' 79 n = (gq (hvw s N) vA vB).2.2.2.2.1 → qE s' 78 n = (gq (hvw s N) vA vB).2.2.2.2.2 → Q none s') : qP X PR d 14 [.ref 74, .int (nI n), .int (nI A), .int (nI B)] s Q := by
  have hp := hh.2.2.1
  have hp5 := hh.2.2.2.1
  obtain ⟨sum, hsum⟩ : ∃ sum, gsum (hvw s N) vA vB = sum := ⟨_, rfl⟩
  obtain ⟨wv, hwv⟩ : ∃ wv : Int32, (if q_fst sum (qF s 74 1) vA.1 vB.1 then 0 else 1) = wv := ⟨_, rfl⟩
  obtain ⟨cv, hcv⟩ : ∃ cv, (if q_fst sum (qF s 74 1) vA.1 vB.1 then vA.2.1 else vB.2.1) = cv := ⟨_, rfl⟩
  have egq : gq (hvw s N) vA vB = (vA.1, cv, q_see (gstd (hvw s N)) vA.1 vA.2.2.1 vB.2.2.1, vA.2.2.2.1 ||| vB.2.2.2.1, sum, wv) := by
    unfold gq
    rw [hsum, ← hcv, ← hwv]
    rfl
  rw [egq] at hk
  have a1 := hA.1
  have b1 := hB.1
  have a2 := hA.2.1
  have b2 := hB.2.1
  have a3 := hA.2.2.1
  have b3 := hB.2.2.1
  have iA := hA.2.2.2.2.2.2
  have iB := hB.2.2.2.2.2.2
  have cv7 : cv < 7 := by rw [← hcv]; split; (exact hA.2.2.2.2.1); (exact hB.2.2.2.2.1)
  refine qP.of (L := [_, _, _, _, _, _]) (by omega) (hP _ rfl) ms_Hall_settleQuestion rfl ?_
  show qW X PR (d - 1) (none) cd_Hall_settleQuestion 0 _ _ _ _
  have loop : ∀ (k e : Nat) (s1 : QST) (L5 : Option Value), e + k = p → qfr 76 82 s s1 → hnf n s s1 → qE s1 76 n = nI vA.1 → qE s1 77 n = nI cv → qE s1 80 n = vA.2.2.2.1 ||| vB.2.2.2.1 → qE s1 79 n = sum → qE s1 78 n = wv → (∀ q, q < e + 1 → qE s1 81 (64 * q + n) = nI (q_see (gstd (hvw s N)) vA.1 vA.2.2.1 vB.2.2.1 q)) → qW X PR (d - 1) (none) cd_Hall_settleQuestion 9 [some (.ref (74)), some (.int (nI n)), some (.int (nI A)), some (.int (nI B)), some (.int (nI (e + 1))), L5] [] s1 Q := by
    intro k
    induction k with
    | zero =>
      intro e s1 L5 he F1 F2 h1 h2 h3 h4 h5 h6
      refine qW.blk rfl ?_
      refine qv_iload rfl ?_
      refine qv_aload rfl ?_
      refine qv_gi ly_74 ⟨rfl, rfl, rfl⟩ ((F1.f (by omega)).trans hp) ?_
      refine qv_icmp_gtNt rfl rfl (by omega) (by omega) (by omega) (tgt := 11) rfl ?_
      refine qW.blk rfl ?_
      refine qv_ret rfl ?_
      refine hk s1 F1 F2 ⟨hn, h1, a3, h2, cv7, fun q hq => ⟨h6 q (by omega), ?_⟩, h3⟩ h4 h5
      cases q with
      | zero => exact a3
      | succ q => exact gstd_lt (hA.2.2.2.2.2.1 q (by omega)).2 (hB.2.2.2.2.2.1 q (by omega)).2
    | succ k ih =>
      intro e s1 L5 he F1 F2 h1 h2 h3 h4 h5 h6
      obtain ⟨g1, g2⟩ := hA.2.2.2.2.2.1 e (by omega)
      obtain ⟨g3, g4⟩ := hB.2.2.2.2.2.1 e (by omega)
      have e1 : qE s1 81 ((e + 1 - 1) * 64 + A) = nI (vA.2.2.1 e) := by rw [Nat.add_sub_cancel, Nat.mul_comm, (F2 A a1 hAn).2]; exact g1
      have e2 : qE s1 81 ((e + 1 - 1) * 64 + B) = nI (vB.2.2.1 e) := by rw [Nat.add_sub_cancel, Nat.mul_comm, (F2 B b1 hBn).2]; exact g3
      have eh : hok s1 N p := by
        have e : ∀ m, qF s1 (84 + 3 * m) = qF s (84 + 3 * m) := fun m => F1.F (by omega)
        unfold hok
        simp only [e, F1.F (c := 74) (by omega)]
        exact hh
      have ew : hvw s1 N = hvw s N := hvw_cg F1 (by omega) (by omega) N
      refine qW.blk rfl ?_
      refine qv_iload rfl ?_
      refine qv_aload rfl ?_
      refine qv_gi ly_74 ⟨rfl, rfl, rfl⟩ ((F1.f (by omega)).trans hp) ?_
      refine qv_icmp_gtNf rfl rfl (by omega) (by omega) (by omega) (nx := 10) rfl ?_
      refine qW.blk rfl ?_
      refine qv_iload rfl ?_
      refine qv_iconst (v := 1) rfl ?_
      refine qv_isubN (q := 1) rfl rfl (by omega) ?_
      refine qv_iconst (v := 64) rfl ?_
      refine qv_imulN (q := 64) rfl rfl ?_
      refine qv_istore (L' := [_, _, _, _, _, _]) rfl ?_
      refine qv_aload rfl ?_
      refine qv_gr ly_74 ⟨rfl, rfl, rfl⟩ (by omega) ?_
      refine qv_iload rfl ?_
      refine qv_iconst (v := 64) rfl ?_
      refine qv_imulN (q := 64) rfl rfl ?_
      refine qv_iload rfl ?_
      refine qv_iaddN rfl rfl ?_
      refine qv_aload rfl ?_
      refine qv_aload rfl ?_
      refine qv_gr ly_74 ⟨rfl, rfl, rfl⟩ (by omega) ?_
      refine qv_iload rfl ?_
      refine qv_iload rfl ?_
      refine qv_iaddN rfl rfl ?_
      refine qv_ia ly_81 rfl (by omega) (by decide) (e1) ?_
      refine qv_aload rfl ?_
      refine qv_gr ly_74 ⟨rfl, rfl, rfl⟩ (by omega) ?_
      refine qv_iload rfl ?_
      refine qv_iload rfl ?_
      refine qv_iaddN rfl rfl ?_
      refine qv_ia ly_81 rfl (by omega) (by decide) (e2) ?_
      refine qv_virtE (ly_74.rcv _) sg_Hall_better rfl rfl (r_better hP (by omega) eh g2 g4) ?_
      refine qv_is ly_81 rfl (by omega) (by decide) ?_
      refine qv_iinc (L' := [_, _, _, _, _, _]) rfl (nI_succ _).symm rfl ?_
      refine qv_goto (tgt := 9) rfl ?_
      rw [Nat.mul_comm (e + 1) 64, ew]
      refine ih (e + 1) _ _ (by omega) (F1.uE (by omega)) (F2.s81 hn) ?_ ?_ ?_ ?_ ?_ (fun q hq => ?_)
      · rw [qE_uEc (by omega)]; exact h1
      · rw [qE_uEc (by omega)]; exact h2
      · rw [qE_uEc (by omega)]; exact h3
      · rw [qE_uEc (by omega)]; exact h4
      · rw [qE_uEc (by omega)]; exact h5
      · by_cases hqe : q = e + 1
        · subst hqe; rw [qE_uEs]; rfl
        · rw [qE_uEk (by omega)]; exact h6 q (by omega)
  have t5 : ∀ (s4 : QST), qfr 76 82 s s4 → hnf n s s4 → qE s4 76 n = nI vA.1 → qE s4 80 n = vA.2.2.2.1 ||| vB.2.2.2.1 → qE s4 79 n = sum → qW X PR (d - 1) (none) cd_Hall_settleQuestion 5 [some (.ref (74)), some (.int (nI n)), some (.int (nI A)), some (.int (nI B)), none, none] [.int (wv), .int (nI n), .ref (78)] s4 Q := by
    intro s4 F1 F2 h1 h2 h3
    have fin : ∀ s6, s6 = uE (uE s4 78 n wv) 77 n (nI cv) → qW X PR (d - 1) (none) cd_Hall_settleQuestion 9 [some (.ref (74)), some (.int (nI n)), some (.int (nI A)), some (.int (nI B)), some (.int (nI (0 + 1))), none] [] (uE s6 81 n (nI vA.1)) Q := by
      intro s6 h6
      subst h6
      refine loop p 0 _ _ (by omega) (((F1.uE (by omega)).uE (by omega)).uE (by omega)) (((F2.sE (by omega)).sE (by omega)).s81' hn (e := 0) (by omega)) ?_ ?_ ?_ ?_ ?_ (fun q hq => ?_)
      · rw [qE_uEc (by omega), qE_uEc (by omega), qE_uEc (by omega)]; exact h1
      · rw [qE_uEc (by omega), qE_uEs]
      · rw [qE_uEc (by omega), qE_uEc (by omega), qE_uEc (by omega)]; exact h2
      · rw [qE_uEc (by omega), qE_uEc (by omega), qE_uEc (by omega)]; exact h3
      · rw [qE_uEc (by omega), qE_uEc (by omega), qE_uEs]
      · have : q = 0 := by omega
        subst this
        rw [show 64 * 0 + n = n by omega, qE_uEs]
        rfl
    have n6 : qE (uE (uE s4 78 n wv) 77 n (nI cv)) 76 n = nI vA.1 := by rw [qE_uEc (by omega), qE_uEc (by omega)]; exact h1
    by_cases hf : q_fst sum (qF s 74 1) vA.1 vB.1
    · rw [if_pos hf] at hwv hcv
      subst hwv
      have c5 : qE (uE s4 78 n 0) 77 A = nI cv := by rw [qE_uEc (by omega), ← hcv, (F2 A a1 hAn).1 77 (by omega) (by omega)]; exact hA.2.2.2.1
      refine qW.blk rfl ?_
      refine qv_is ly_78 rfl (by omega) (by decide) ?_
      refine qv_aload rfl ?_
      refine qv_gr ly_74 ⟨rfl, rfl, rfl⟩ (by omega) ?_
      refine qv_iload rfl ?_
      refine qv_aload rfl ?_
      refine qv_gr ly_74 ⟨rfl, rfl, rfl⟩ (by omega) ?_
      refine qv_aload rfl ?_
      refine qv_gr ly_74 ⟨rfl, rfl, rfl⟩ (by omega) ?_
      refine qv_iload rfl ?_
      refine qv_ia ly_78 rfl (by omega) (by decide) (qE_uEs) ?_
      refine qv_if_ne_f (fun h => h rfl) (nx := 6) rfl ?_
      refine qW.blk rfl ?_
      refine qv_iload rfl ?_
      refine qv_goto (tgt := 8) rfl ?_
      refine qW.blk rfl ?_
      refine qv_ia ly_77 rfl (by omega) (by decide) (c5) ?_
      refine qv_is ly_77 rfl (by omega) (by decide) ?_
      refine qv_aload rfl ?_
      refine qv_gr ly_74 ⟨rfl, rfl, rfl⟩ (by omega) ?_
      refine qv_iload rfl ?_
      refine qv_aload rfl ?_
      refine qv_gr ly_74 ⟨rfl, rfl, rfl⟩ (by omega) ?_
      refine qv_iload rfl ?_
      refine qv_ia ly_76 rfl (by omega) (by decide) (n6) ?_
      refine qv_is ly_81 rfl (by omega) (by decide) ?_
      refine qv_iconst (v := 1) rfl ?_
      refine qv_istore (L' := [_, _, _, _, _, _]) rfl ?_
      refine qv_nil (nx := 9) rfl ?_
      exact fin _ rfl
    · rw [if_neg hf] at hwv hcv
      subst hwv
      have c5 : qE (uE s4 78 n 1) 77 B = nI cv := by rw [qE_uEc (by omega), ← hcv, (F2 B b1 hBn).1 77 (by omega) (by omega)]; exact hB.2.2.2.1
      refine qW.blk rfl ?_
      refine qv_is ly_78 rfl (by omega) (by decide) ?_
      refine qv_aload rfl ?_
      refine qv_gr ly_74 ⟨rfl, rfl, rfl⟩ (by omega) ?_
      refine qv_iload rfl ?_
      refine qv_aload rfl ?_
      refine qv_gr ly_74 ⟨rfl, rfl, rfl⟩ (by omega) ?_
      refine qv_aload rfl ?_
      refine qv_gr ly_74 ⟨rfl, rfl, rfl⟩ (by omega) ?_
      refine qv_iload rfl ?_
      refine qv_ia ly_78 rfl (by omega) (by decide) (qE_uEs) ?_
      refine qv_if_ne_t (by decide) (tgt := 7) rfl ?_
      refine qW.blk rfl ?_
      refine qv_iload rfl ?_
      refine qv_nil (nx := 8) rfl ?_
      refine qW.blk rfl ?_
      refine qv_ia ly_77 rfl (by omega) (by decide) (c5) ?_
      refine qv_is ly_77 rfl (by omega) (by decide) ?_
      refine qv_aload rfl ?_
      refine qv_gr ly_74 ⟨rfl, rfl, rfl⟩ (by omega) ?_
      refine qv_iload rfl ?_
      refine qv_aload rfl ?_
      refine qv_gr ly_74 ⟨rfl, rfl, rfl⟩ (by omega) ?_
      refine qv_iload rfl ?_
      refine qv_ia ly_76 rfl (by omega) (by decide) (n6) ?_
      refine qv_is ly_81 rfl (by omega) (by decide) ?_
      refine qv_iconst (v := 1) rfl ?_
      refine qv_istore (L' := [_, _, _, _, _, _]) rfl ?_
      refine qv_nil (nx := 9) rfl ?_
      exact fin _ rfl
  have q2 : qE (uE s 76 n (nI vA.1)) 80 A = vA.2.2.2.1 := by rw [qE_uEc (by omega)]; exact iA
  have q3 : qE (uE s 76 n (nI vA.1)) 80 B = vB.2.2.2.1 := by rw [qE_uEc (by omega)]; exact iB
  have F2 : qfr 76 80 s (uE (uE s 76 n (nI vA.1)) 80 n (vA.2.2.2.1 ||| vB.2.2.2.1)) := (((qfr.rf s).uE (by omega)).uE (by omega))
  have H2 : hnf n s (uE (uE s 76 n (nI vA.1)) 80 n (vA.2.2.2.1 ||| vB.2.2.2.1)) := (((hnf.rf n s).sE (by omega)).sE (by omega))
  have z1 : qE (uE (uE s 76 n (nI vA.1)) 80 n (vA.2.2.2.1 ||| vB.2.2.2.1)) 76 n = nI vA.1 := by rw [qE_uEc (by omega), qE_uEs]
  have z2 : qE (uE (uE s 76 n (nI vA.1)) 80 n (vA.2.2.2.1 ||| vB.2.2.2.1)) 80 n = vA.2.2.2.1 ||| vB.2.2.2.1 := by rw [qE_uEs]
  have W2 : gsum (hvw (uE (uE s 76 n (nI vA.1)) 80 n (vA.2.2.2.1 ||| vB.2.2.2.1)) N) vA vB = sum := by rw [hvw_cg F2 (by omega) (by omega)]; exact hsum
  have t4 : ∀ s3, qfr 82 82 (uE (uE s 76 n (nI vA.1)) 80 n (vA.2.2.2.1 ||| vB.2.2.2.1)) s3 → qW X PR (d - 1) (none) cd_Hall_settleQuestion 5 [some (.ref (74)), some (.int (nI n)), some (.int (nI A)), some (.int (nI B)), none, none] [.int (wv), .int (nI n), .ref (78)] (uE s3 79 n sum) Q := by
    intro s3 F3
    refine t5 _ (((F2.mono (by omega) (by omega)).trans (F3.mono (by omega) (by omega))).uE (by omega)) ((H2.trans (hnf.fr F3 (by omega))).sE (by omega)) ?_ ?_ ?_
    · rw [qE_uEc (by omega), F3.e (by omega)]; exact z1
    · rw [qE_uEc (by omega), F3.e (by omega)]; exact z2
    · rw [qE_uEs]
  refine qW.blk rfl ?_
  refine qv_aload rfl ?_
  refine qv_gr ly_74 ⟨rfl, rfl, rfl⟩ (by omega) ?_
  refine qv_iload rfl ?_
  refine qv_aload rfl ?_
  refine qv_gr ly_74 ⟨rfl, rfl, rfl⟩ (by omega) ?_
  refine qv_iload rfl ?_
  refine qv_ia ly_76 rfl (by omega) (by decide) (a2) ?_
  refine qv_is ly_76 rfl (by omega) (by decide) ?_
  refine qv_aload rfl ?_
  refine qv_gr ly_74 ⟨rfl, rfl, rfl⟩ (by omega) ?_
  refine qv_iload rfl ?_
  refine qv_aload rfl ?_
  refine qv_gr ly_74 ⟨rfl, rfl, rfl⟩ (by omega) ?_
  refine qv_iload rfl ?_
  refine qv_ia ly_80 rfl (by omega) (by decide) (q2) ?_
  refine qv_aload rfl ?_
  refine qv_gr ly_74 ⟨rfl, rfl, rfl⟩ (by omega) ?_
  refine qv_iload rfl ?_
  refine qv_ia ly_80 rfl (by omega) (by decide) (q3) ?_
  refine qv_ior ?_
  refine qv_is ly_80 rfl (by omega) (by decide) ?_
  refine qv_aload rfl ?_
  refine qv_gr ly_74 ⟨rfl, rfl, rfl⟩ (by omega) ?_
  refine qv_iload rfl ?_
  refine qv_aload rfl ?_
  refine qv_iload rfl ?_
  refine qv_iload rfl ?_
  refine qv_virt (ly_74.rcv _) sg_Hall_votesFor rfl rfl (w_Hall_votesFor hP (by omega) (hh.cg F2 (by omega) (by omega)) (H2.nd hAn hA) (H2.nd hBn hB) (fun s3 F3 => ?_)) 
  refine qv_top (W2) ?_
  refine qv_is ly_79 rfl (by omega) (by decide) ?_
  refine qv_aload rfl ?_
  refine qv_gr ly_74 ⟨rfl, rfl, rfl⟩ (by omega) ?_
  refine qv_iload rfl ?_
  refine qv_aload rfl ?_
  refine qv_gr ly_74 ⟨rfl, rfl, rfl⟩ (by omega) ?_
  refine qv_iload rfl ?_
  refine qv_ia ly_79 rfl (by omega) (by decide) (qE_uEs) ?_
  refine qv_if_gt (tgt := 3) (nx := 1) rfl rfl (fun hc0 => ?_) (fun hc0 => ?_)
  · have T := t4 s3 F3
    rw [← hwv, if_pos (Or.inl hc0)] at T
    refine qW.blk rfl ?_
    refine qv_iconst (v := 0) rfl ?_
    refine qv_goto (tgt := 5) rfl ?_
    exact T
  · have T := t4 s3 F3
    have n4 : ∀ j v, qE s 76 j = nI v → j ≠ n → qE (uE s3 79 n sum) 76 j = nI v := fun j v h1 h2 => by
      rw [qE_uEc (by omega), F3.e (by omega), qE_uEc (by omega), qE_uE, if_neg (fun z => h2 z.2)]; exact h1
    refine qW.blk rfl ?_
    refine qv_aload rfl ?_
    refine qv_gr ly_74 ⟨rfl, rfl, rfl⟩ (by omega) ?_
    refine qv_iload rfl ?_
    refine qv_ia ly_79 rfl (by omega) (by decide) (qE_uEs) ?_
    refine qv_if_ne (tgt := 4) (nx := 2) rfl rfl (fun hc1 => ?_) (fun hc1 => ?_)
    · rw [← hwv, if_neg (fun h => h.elim hc0 (fun z => hc1 z.1))] at T
      refine qW.blk rfl ?_
      refine qv_iconst (v := 1) rfl ?_
      refine qv_nil (nx := 5) rfl ?_
      exact T
    · have h0 := Decidable.not_not.mp hc1
      have ech : qF (uE s3 79 n sum) 74 1 = qF s 74 1 := by
        show qF s3 74 1 = _
        rw [F3.f (by omega), F2.f (by omega)]
      refine qW.blk rfl ?_
      refine qv_aload rfl ?_
      refine qv_aload rfl ?_
      refine qv_gr ly_74 ⟨rfl, rfl, rfl⟩ (by omega) ?_
      refine qv_iload rfl ?_
      refine qv_ia ly_76 rfl (by omega) (by decide) (n4 A _ a2 hAn) ?_
      refine qv_aload rfl ?_
      refine qv_gr ly_74 ⟨rfl, rfl, rfl⟩ (by omega) ?_
      refine qv_iload rfl ?_
      refine qv_ia ly_76 rfl (by omega) (by decide) (n4 B _ b2 hBn) ?_
      refine qv_virtE (ly_74.rcv _) sg_Hall_chairsOf rfl rfl (r_chairsOf hP (by omega) a3 b3) ?_
      refine qv_aload rfl ?_
      refine qv_gr ly_74 ⟨rfl, rfl, rfl⟩ (by omega) ?_
      refine qv_iload rfl ?_
      refine qv_ia ly_76 rfl (by omega) (by decide) (n4 A _ a2 hAn) ?_
      refine qv_icmp_ne (tgt := 4) (nx := 3) rfl rfl (fun hc2 => ?_) (fun hc2 => ?_)
      · have hx : ¬ ((if qF s 74 1 = 0 then min vA.1 vB.1 else max vA.1 vB.1) = vA.1) := fun z => hc2 (by rw [ech, z])
        rw [← hwv, if_neg (fun h => h.elim hc0 (fun z => hx (chair_fst.mpr z.2)))] at T
        refine qW.blk rfl ?_
        refine qv_iconst (v := 1) rfl ?_
        refine qv_nil (nx := 5) rfl ?_
        exact T
      · have hx : (if qF s 74 1 = 0 then min vA.1 vB.1 else max vA.1 vB.1) = vA.1 := by
          have := Decidable.not_not.mp hc2
          rw [ech] at this
          exact (nI_eq (by split <;> omega) (by omega)).mp this
        rw [← hwv, if_pos (Or.inr ⟨h0, chair_fst.mp hx⟩)] at T
        refine qW.blk rfl ?_
        refine qv_iconst (v := 0) rfl ?_
        refine qv_goto (tgt := 5) rfl ?_
        exact T
/-- the class's picture of a TREE -/
def ctr (t : TR) (K : Nat) (w sc pr : Nat → Int32) : Prop := ∀ n, n < K → (t n).1 ≤ 2 ∧ ((t n).1 = 0 → (t n).2.2.2.1 < 7 ∧ w n = nI (t n).2.2.2.1) ∧ ((t n).1 = 1 → w n = 7) ∧ ((t n).1 = 2 → w n = 8 ∧ pr n = nI ((t n).2.2.2.1 * 7 + (t n).2.2.2.2) ∧ (t n).2.2.2.1 < 7 ∧ (t n).2.2.2.2 < 7) ∧ (¬ (t n).1 = 0 → n + 1 < K ∧ n < (t n).2.2.1 ∧ (t n).2.2.1 < K ∧ sc n = nI (t n).2.2.1)
/-- V tells what comes of its nodes -/
def ceq (W : VW) (t : TR) (K : Nat) (V : Nat → NV) : Prop := ∀ n, n < K → ((t n).1 = 0 → nve (nv_leaf (t n).2.2.2.1) (V n)) ∧ ((t n).1 = 1 → nve (gq W (V (n + 1)) (V (t n).2.2.1)) (V n)) ∧ ((t n).1 = 2 → nve (gc W (t n).2.2.2.1 (t n).2.2.2.2 (V (n + 1)) (V (t n).2.2.1)) (V n))
/-- the arrays hold all of node n -/
def hna (s : QST) (p : Nat) (t : TR) (n : Nat) (v : NV) : Prop := hnd s p n v ∧ ((t n).1 = 1 → qE s 79 n = v.2.2.2.2.1 ∧ qE s 78 n = v.2.2.2.2.2)
theorem hnf.na {n p A : Nat} {s u : QST} {t : TR} {v : NV} (h : hnf n s u) (hA : A ≠ n) (hv : hna s p t A v) : hna u p t A v := ⟨h.nd hA hv.1, fun hk => by
  obtain ⟨g1, -⟩ := h A hv.1.1 hA
  rw [g1 79 (by omega) (by omega), g1 78 (by omega) (by omega)]
  exact hv.2 hk⟩
theorem w_Hall_settle (hP : pm_np PR) {d : Nat} (hd : 5 ≤ d) (hh : hok s N p) {T K : Nat} {w sc pr : Nat → Int32} {tq ts ta : Int32} (hT : qTR (qR s) T K w sc pr tq ts ta) (hK0 : 0 < K) (hK : K ≤ 60) {t : TR} (ht : ctr t K w sc pr) {V : Nat → NV} (hV : ceq (hvw s N) t K V) (hk : ∀ s', qfr 76 82 s s' → (∀ n, n < K → hna s' p t n (V n)) → Q (some (.int (nI (V 0).2.1))) s') : qP X PR d 13 [.ref 74, .ref T] s Q := by
  have hp := hh.2.2.1
  have hp5 := hh.2.2.2.1
  refine qP.of (L := [_, _, _, _, _]) (by omega) (hP _ rfl) ms_Hall_settle rfl ?_
  show qW X PR (d - 1) (some .int) cd_Hall_settle 0 _ _ _ _
  have loop : ∀ (k : Nat) (s1 : QST) (L3 L4 : Option Value), k ≤ K → qfr 76 82 s s1 → (∀ n, k ≤ n → n < K → hna s1 p t n (V n)) → qW X PR (d - 1) (some .int) cd_Hall_settle 1 [some (.ref (74)), some (.ref (T)), some (.int ((nI k - 1))), L3, L4] [] s1 Q := by
    intro k
    induction k with
    | zero =>
      intro s1 L3 L4 hk1 F1 h1
      refine qW.blk rfl ?_
      refine qv_iload rfl ?_
      refine qv_if_lt_t (by decide) (tgt := 8) rfl ?_
      refine qW.blk rfl ?_
      refine qv_aload rfl ?_
      refine qv_gr ly_74 ⟨rfl, rfl, rfl⟩ (by omega) ?_
      refine qv_iconst (v := 0) rfl ?_
      refine qv_ia (j := 0) ly_77 rfl (by omega) (by decide) ((h1 0 (by omega) hK0).1.2.2.2.1) ?_
      refine qv_iret (rfl) ?_
      exact hk s1 F1 (fun n hn => h1 n (by omega) hn)
    | succ k ih =>
      intro s1 L3 L4 hk1 F1 h1
      have hkK : k < K := by omega
      have hR : qR s1 = qR s := F1.R
      obtain ⟨t1, t2, t3, t4, t5⟩ := ht k hkK
      obtain ⟨v1, v2, v3⟩ := hV k hkK
      have ew : hvw s1 N = hvw s N := hvw_cg F1 (by omega) (by omega) N
      have eh : hok s1 N p := hh.cg F1 (by omega) (by omega)
      have dec : nI k + Int32.ofInt (-1) = nI k - 1 := by rw [show Int32.ofInt (-1) = (-1 : Int32) from by decide, Int32.sub_eq_add_neg]
      have hp1 : qF s1 74 2 = nI p := (F1.f (by omega)).trans hp
      have nxt : ∀ (s2 : QST) (L3 L4 : Option Value), qfr 76 82 s1 s2 → hnf k s1 s2 → hna s2 p t k (V k) → qW X PR (d - 1) (some .int) cd_Hall_settle 7 [some (.ref (74)), some (.ref (T)), some (.int (nI k)), L3, L4] [] s2 Q := by
        intro s2 L3 L4 F2 H2 h2
        refine qW.blk rfl ?_
        refine qv_iinc (L' := [_, _, _, _, _]) rfl (dec) rfl ?_
        refine qv_goto (tgt := 1) rfl ?_
        refine ih s2 _ _ (by omega) (F1.trans F2) (fun n h3 h4 => ?_)
        by_cases e : n = k
        · subst e; exact h2
        · exact H2.na e (h1 n (by omega) h4)
      have body : qW X PR (d - 1) (some .int) cd_Hall_settle 1 [some (.ref (74)), some (.ref (T)), some (.int (nI k)), L3, L4] [] s1 Q := by
        rcases (show (t k).1 = 0 ∨ (t k).1 = 1 ∨ (t k).1 = 2 by omega) with h0 | h0 | h0
        · obtain ⟨g1, g2⟩ := t2 h0
          have n7 : ¬ nI (t k).2.2.2.1 = 7 := fun z => by have := (nI_eq (a := (t k).2.2.2.1) (b := 7) (by omega) (by omega)).mp z; omega
          have n8 : ¬ nI (t k).2.2.2.1 = 8 := fun z => by have := (nI_eq (a := (t k).2.2.2.1) (b := 8) (by omega) (by omega)).mp z; omega
          refine qW.blk rfl ?_
          refine qv_iload rfl ?_
          refine qv_if_ltNf rfl (by omega) (by omega) (nx := 2) rfl ?_
          refine qW.blk rfl ?_
          refine qv_aload rfl ?_
          refine qv_gh (hT.o hR) rfl rfl ?_
          refine qv_iload rfl ?_
          refine qv_iah (hT.a1 hR) rfl (by omega) (by omega) (g2) ?_
          refine qv_istore (L' := [_, _, _, _, _]) rfl ?_
          refine qv_iload rfl ?_
          refine qv_iconst (v := 7) rfl ?_
          refine qv_icmp_ne_t (n7) (tgt := 4) rfl ?_
          refine qW.blk rfl ?_
          refine qv_iload rfl ?_
          refine qv_iconst (v := 8) rfl ?_
          refine qv_icmp_ne_t (n8) (tgt := 6) rfl ?_
          refine qW.blk rfl ?_
          refine qv_aload rfl ?_
          refine qv_iload rfl ?_
          refine qv_iload rfl ?_
          refine qv_virt (ly_74.rcv _) sg_Hall_settleEnd rfl rfl (w_Hall_settleEnd hP (by omega) hp1 hp5 (by omega) g1 (fun s2 F2 H2 h2 => ?_)) 
          refine qv_nil (nx := 7) rfl ?_
          exact nxt s2 _ _ (F2.mono (by omega) (by omega)) H2 ⟨h2.ve (v1 h0) hp5, fun z => by omega⟩
        · obtain ⟨g1, g2, g3, g4⟩ := t5 (by omega)
          refine qW.blk rfl ?_
          refine qv_iload rfl ?_
          refine qv_if_ltNf rfl (by omega) (by omega) (nx := 2) rfl ?_
          refine qW.blk rfl ?_
          refine qv_aload rfl ?_
          refine qv_gh (hT.o hR) rfl rfl ?_
          refine qv_iload rfl ?_
          refine qv_iah (hT.a1 hR) rfl (by omega) (by omega) (t3 h0) ?_
          refine qv_istore (L' := [_, _, _, _, _]) rfl ?_
          refine qv_iload rfl ?_
          refine qv_iconst (v := 7) rfl ?_
          refine qv_icmp_ne_f (fun h => h rfl) (nx := 3) rfl ?_
          refine qW.blk rfl ?_
          refine qv_aload rfl ?_
          refine qv_iload rfl ?_
          refine qv_iload rfl ?_
          refine qv_iconst (v := 1) rfl ?_
          refine qv_iaddN (q := 1) rfl rfl ?_
          refine qv_aload rfl ?_
          refine qv_gh (hT.o hR) rfl rfl ?_
          refine qv_iload rfl ?_
          refine qv_iah (hT.a2 hR) rfl (by omega) (by omega) (g4) ?_
          refine qv_virt (ly_74.rcv _) sg_Hall_settleQuestion rfl rfl (w_Hall_settleQuestion hP (by omega) eh (by omega) (h1 (k + 1) (by omega) (by omega)).1 (h1 _ (by omega) g3).1 (by omega) (by omega) (fun s2 F2 H2 h2 h3 h4 => ?_)) 
          refine qv_goto (tgt := 7) rfl ?_
          rw [ew] at h2 h3 h4
          have e4 := (v2 h0).2.2.2
          exact nxt s2 _ _ F2 H2 ⟨h2.ve (v2 h0) hp5, fun _ => ⟨by rw [h3, e4], by rw [h4, e4]⟩⟩
        · obtain ⟨g1, g2, g3, g4⟩ := t5 (by omega)
          obtain ⟨u1, u2, u3, u4⟩ := t4 h0
          have hdv : ((t k).2.2.2.1 * 7 + (t k).2.2.2.2) / 7 = (t k).2.2.2.1 := by omega
          have hmd : ((t k).2.2.2.1 * 7 + (t k).2.2.2.2) % 7 = (t k).2.2.2.2 := by omega
          refine qW.blk rfl ?_
          refine qv_iload rfl ?_
          refine qv_if_ltNf rfl (by omega) (by omega) (nx := 2) rfl ?_
          refine qW.blk rfl ?_
          refine qv_aload rfl ?_
          refine qv_gh (hT.o hR) rfl rfl ?_
          refine qv_iload rfl ?_
          refine qv_iah (hT.a1 hR) rfl (by omega) (by omega) (u1) ?_
          refine qv_istore (L' := [_, _, _, _, _]) rfl ?_
          refine qv_iload rfl ?_
          refine qv_iconst (v := 7) rfl ?_
          refine qv_icmp_ne_t (by decide) (tgt := 4) rfl ?_
          refine qW.blk rfl ?_
          refine qv_iload rfl ?_
          refine qv_iconst (v := 8) rfl ?_
          refine qv_icmp_ne_f (fun h => h rfl) (nx := 5) rfl ?_
          refine qW.blk rfl ?_
          refine qv_aload rfl ?_
          refine qv_gh (hT.o hR) rfl rfl ?_
          refine qv_iload rfl ?_
          refine qv_iah (hT.a3 hR) rfl (by omega) (by omega) (u2) ?_
          refine qv_istore (L' := [_, _, _, _, _]) rfl ?_
          refine qv_aload rfl ?_
          refine qv_iload rfl ?_
          refine qv_iload rfl ?_
          refine qv_iconst (v := 1) rfl ?_
          refine qv_iaddN (q := 1) rfl rfl ?_
          refine qv_aload rfl ?_
          refine qv_gh (hT.o hR) rfl rfl ?_
          refine qv_iload rfl ?_
          refine qv_iah (hT.a2 hR) rfl (by omega) (by omega) (g4) ?_
          refine qv_aload rfl ?_
          refine qv_iload rfl ?_
          refine qv_iconst (v := 7) rfl ?_
          refine qv_idivN (q := 7) rfl rfl (by omega) (by omega) (by omega) ?_
          refine qv_iload rfl ?_
          refine qv_iconst (v := 7) rfl ?_
          refine qv_iremN (q := 7) rfl rfl (by omega) (by omega) (by omega) ?_
          refine qv_virtE (ly_74.rcv _) sg_Hall_beats rfl rfl ((by rw [hdv, hmd]; exact r_beats hP (by omega) eh u3 u4)) ?_
          refine qv_virt (ly_74.rcv _) sg_Hall_settleChoice rfl rfl (w_Hall_settleChoice hP (by omega) hp1 hp5 (by omega) (h1 (k + 1) (by omega) (by omega)).1 (h1 _ (by omega) g3).1 (by omega) (by omega) (fun s2 F2 H2 h2 => ?_)) 
          refine qv_goto (tgt := 7) rfl ?_
          rw [ew] at h2
          exact nxt s2 _ _ (F2.mono (by omega) (by omega)) H2 ⟨h2.ve (v3 h0) hp5, fun z => by omega⟩
      rw [nI_pred]
      exact body
  refine qW.blk rfl ?_
  refine qv_aload rfl ?_
  refine qv_gh (hT.o rfl) rfl rfl ?_
  refine qv_iconst (v := 1) rfl ?_
  refine qv_isub ?_
  refine qv_istore (L' := [_, _, _, _, _]) rfl ?_
  refine qv_nil (nx := 1) rfl ?_
  exact loop K s _ _ (Nat.le_refl _) (qfr.rf s) (fun n h1 h2 => by omega)
end
