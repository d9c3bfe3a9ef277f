/-! element, toss, the table, the loop -/
theorem nI_ltr {a b : Nat} (ha : a < 2 ^ 31) (hb : b < 2 ^ 31) (h : a < b) : nI a < nI b := Int32.not_le.mp (fun z => absurd ((nI_leI hb ha).mp z) (by omega))
theorem nI_nltr {a b : Nat} (ha : a < 2 ^ 31) (hb : b < 2 ^ 31) (h : b ≤ a) : ¬ nI a < nI b := Int32.not_lt.mpr ((nI_leI hb ha).mpr h)
theorem and63 (x : Int32) : ∃ j, j < 64 ∧ x &&& 63 = nI j := by
  refine ⟨(x &&& 63).toBitVec.toNat, ?_, ?_⟩
  · rw [Int32.toBitVec_and, BitVec.toNat_and]
    exact Nat.lt_of_le_of_lt Nat.and_le_right (by decide)
  · apply Int32.toBitVec_inj.mp
    show _ = BitVec.ofNat 32 _
    simp
section
variable {L : Nat} {xs : Nat → Int32} {i n : Nat} {l5 l6 l7 : Option Value} {s : QST} {Q : QPost}
theorem lw_toss (hX : pm_X0 L xs 0 = some (L, xs)) (hL : L ≤ 3072) (hi : i + 6 ≤ L) (hI : LI n s) (kk : ∀ s2, LI (n + 1) s2 → qW (pm_X0 L xs) (PR1 (pm_X0 L xs)) 101 ret cd_law 123 (LL i l5 l6 l7) [] s2 Q) : qW (pm_X0 L xs) (PR1 (pm_X0 L xs)) 101 ret cd_law 121 (LL i l5 l6 l7) [] s Q := by
  obtain ⟨x, s1, s2, r1, r2, hI2⟩ := toss_call (X := pm_X0 L xs) (a := xs (i + 1)) hI
  refine qW.blk rfl ?_
  refine qv_aload rfl ?_
  refine lw_arg (k := 1) hX rfl (by omega) hL ?_
  refine qv_virt (ly_8.rcv _) sg_Desk_toss rfl rfl ⟨_, s1, r1, ?_⟩
  refine qv_aload rfl ?_
  refine lw_arg (k := 1) hX rfl (by omega) hL ?_
  refine qv_virt (ly_163.rcv _) sg_Model_toss rfl rfl ⟨_, s2, r2, ?_⟩
  refine qv_icmp_eq_t rfl (tgt := 123) rfl ?_
  exact kk _ hI2
theorem lw_element (hX : pm_X0 L xs 0 = some (L, xs)) (hL : L ≤ 3072) (hi : i + 6 ≤ L) (hI : LI n s) (kk : ∀ s2 l5 l6 l7, LI (n + 1) s2 → qW (pm_X0 L xs) (PR1 (pm_X0 L xs)) 101 ret cd_law 123 (LL i l5 l6 l7) [] s2 Q) : qW (pm_X0 L xs) (PR1 (pm_X0 L xs)) 101 ret cd_law 111 (LL i l5 l6 l7) [] s Q := by
  obtain ⟨x, y, s1, s2, r1, r2, r3, hy, hI2⟩ := el_call (X := pm_X0 L xs) (a := xs (i + 1)) (b := xs (i + 2)) hI
  refine qW.blk rfl ?_
  refine qv_aload rfl ?_
  refine lw_arg (k := 1) hX rfl (by omega) hL ?_
  refine lw_arg (k := 2) hX rfl (by omega) hL ?_
  refine qv_aload rfl ?_
  refine qv_static sg_Law_element rfl ⟨_, s1, r1, ?_⟩
  refine qv_istore (L' := LL i (some (.int x)) l6 l7) rfl ?_
  refine qv_aload rfl ?_
  refine lw_arg (k := 1) hX rfl (by omega) hL ?_
  refine lw_arg (k := 2) hX rfl (by omega) hL ?_
  refine qv_virt (ly_163.rcv _) sg_Model_element rfl rfl ⟨_, s2, r2, ?_⟩
  refine qv_lstore (L' := LL i (some (.int x)) (some (.long y)) none) rfl ?_
  refine qv_aload rfl ?_
  refine qv_virt (ly_163.rcv _) sg_Model_thrown rfl rfl ⟨_, s2, r3, ?_⟩
  refine qv_iload rfl ?_
  refine qv_icmp_eq_t rfl (tgt := 113) rfl ?_
  have fin : qW (pm_X0 L xs) (PR1 (pm_X0 L xs)) 101 ret cd_law 116 (LL i (some (.int x)) (some (.long y)) none) [] s2 Q := by
    refine qW.blk rfl ?_
    refine qv_goto (tgt := 123) rfl ?_
    exact kk _ _ _ _ hI2
  refine qW.blk rfl ?_
  refine qv_iload rfl ?_
  by_cases hx : x = 0
  · refine qv_if_ne_f (fun z => z hx) (nx := 114) rfl ?_
    refine qW.blk rfl ?_
    refine qv_aload rfl ?_
    refine qv_iconst (v := 0) rfl ?_
    refine qv_la ly_203 (show (0 : Int32) = nI 0 from rfl) (by decide) (by decide) (hy hx) ?_
    refine qv_lload rfl ?_
    refine qv_lcmp ?_
    exact qv_if_eq_t lg_self (tgt := 116) rfl fin
  · exact qv_if_ne_t hx (tgt := 116) rfl fin
theorem lw_switch (hX : pm_X0 L xs 0 = some (L, xs)) (hL : L ≤ 3072) (hi : i + 6 ≤ L) (hI : LI n s) (kk : ∀ s2 n2 l5 l6 l7, n2 ≤ n + 1 → LI n2 s2 → qW (pm_X0 L xs) (PR1 (pm_X0 L xs)) 101 ret cd_law 123 (LL i l5 l6 l7) [] s2 Q) : qW (pm_X0 L xs) (PR1 (pm_X0 L xs)) 101 ret cd_law 2 (LL i l5 l6 l7) [] s Q := by
  refine qW.blk rfl ?_
  refine qv_aload rfl ?_
  refine qv_iload rfl ?_
  refine qV.of (s' := s) (st' := [.int (xs i)]) (fun _ z => pe_ialdX hX (by decide) (vp_in_nI (show i < L by omega) (by omega)) (by rw [nI_clamp (by omega)]; exact z)) ?_
  refine qv_iconst (v := 63) rfl ?_
  refine qv_iand ?_
  obtain ⟨j, hj, e⟩ := and63 (xs i)
  refine qv_top e ?_
  have k1 : ∀ s2, LI (n + 1) s2 → qW (pm_X0 L xs) (PR1 (pm_X0 L xs)) 101 ret cd_law 123 (LL i l5 l6 l7) [] s2 Q := fun s2 h => kk s2 (n + 1) _ _ _ (Nat.le_refl _) h
  have k0 : qW (pm_X0 L xs) (PR1 (pm_X0 L xs)) 101 ret cd_law 123 (LL i l5 l6 l7) [] s Q := kk s n _ _ _ (Nat.le_succ _) hI
  match j, hj with
  | 0, _ => exact qv_table (tt := 3) (by decide +kernel) (tgt := 3) rfl (lw_set hX hL hi hI k1)
  | 1, _ => exact qv_table (tt := 5) (by decide +kernel) (tgt := 5) rfl (lw_member hX hL hi hI k1)
  | 2, _ => exact qv_table (tt := 7) (by decide +kernel) (tgt := 7) rfl (lw_bought hX hL hi hI k1)
  | 3, _ => exact qv_table (tt := 9) (by decide +kernel) (tgt := 9) rfl (lw_becomes hX hL hi hI k1)
  | 4, _ => exact qv_table (tt := 11) (by decide +kernel) (tgt := 11) rfl (lw_wish hX hL hi hI k1)
  | 5, _ => exact qv_table (tt := 13) (by decide +kernel) (tgt := 13) rfl (lw_doubted hX hL hi hI k1)
  | 6, _ => exact qv_table (tt := 15) (by decide +kernel) (tgt := 15) rfl (lw_sure hX hL hi hI k1)
  | 7, _ => exact qv_table (tt := 17) (by decide +kernel) (tgt := 17) rfl (lw_about hX hL hi hI k1)
  | 8, _ => exact qv_table (tt := 19) (by decide +kernel) (tgt := 19) rfl (lw_fault hX hL hi hI k1)
  | 9, _ => exact qv_table (tt := 21) (by decide +kernel) (tgt := 21) rfl (lw_tree hX hL hi hI k1)
  | 10, _ => exact qv_table (tt := 23) (by decide +kernel) (tgt := 23) rfl (lw_of hX hL hi hI k1)
  | 11, _ => exact qv_table (tt := 25) (by decide +kernel) (tgt := 25) rfl (lw_beat hX hL hi hI k1)
  | 12, _ => exact qv_table (tt := 27) (by decide +kernel) (tgt := 27) rfl (lw_stands hX hL hi hI k1)
  | 13, _ => exact qv_table (tt := 29) (by decide +kernel) (tgt := 29) rfl (lw_run hX hL hi hI k1)
  | 14, _ => exact qv_table (tt := 31) (by decide +kernel) (tgt := 31) rfl (lw_ask hX hL hi hI k1)
  | 15, _ => exact qv_table (tt := 33) (by decide +kernel) (tgt := 33) rfl (lw_wonBy hX hL hi hI k1)
  | 16, _ => exact qv_table (tt := 35) (by decide +kernel) (tgt := 35) rfl (lw_why hX hL hi hI k1)
  | 17, _ => exact qv_table (tt := 37) (by decide +kernel) (tgt := 37) rfl (lw_ifAll hX hL hi hI k1)
  | 18, _ => exact qv_table (tt := 39) (by decide +kernel) (tgt := 39) rfl (lw_parts hX hL hi hI k1)
  | 19, _ => exact qv_table (tt := 41) (by decide +kernel) (tgt := 41) rfl (lw_order hX hL hi hI k1)
  | 20, _ => exact qv_table (tt := 49) (by decide +kernel) (tgt := 49) rfl (lw_reach hX hL hi hI k1)
  | 21, _ => exact qv_table (tt := 57) (by decide +kernel) (tgt := 57) rfl (lw_first hX hL hi hI k1)
  | 22, _ => exact qv_table (tt := 65) (by decide +kernel) (tgt := 65) rfl (lw_best hX hL hi hI k1)
  | 23, _ => exact qv_table (tt := 67) (by decide +kernel) (tgt := 67) rfl (lw_top hX hL hi hI k1)
  | 24, _ => exact qv_table (tt := 69) (by decide +kernel) (tgt := 69) rfl (lw_killers hX hL hi hI k1)
  | 25, _ => exact qv_table (tt := 71) (by decide +kernel) (tgt := 71) rfl (lw_shields hX hL hi hI k1)
  | 26, _ => exact qv_table (tt := 73) (by decide +kernel) (tgt := 73) rfl (lw_tell hX hL hi hI k1)
  | 27, _ => exact qv_table (tt := 75) (by decide +kernel) (tgt := 75) rfl (lw_falseVote hX hL hi hI k1)
  | 28, _ => exact qv_table (tt := 77) (by decide +kernel) (tgt := 77) rfl (lw_chance hX hL hi hI k1)
  | 29, _ => exact qv_table (tt := 79) (by decide +kernel) (tgt := 79) rfl (lw_boughtOff hX hL hi hI k1)
  | 30, _ => exact qv_table (tt := 81) (by decide +kernel) (tgt := 81) rfl (lw_bestLie hX hL hi hI k1)
  | 31, _ => exact qv_table (tt := 83) (by decide +kernel) (tgt := 83) rfl (lw_surely hX hL hi hI k1)
  | 32, _ => exact qv_table (tt := 85) (by decide +kernel) (tgt := 85) rfl (lw_ring hX hL hi hI k1)
  | 33, _ => exact qv_table (tt := 87) (by decide +kernel) (tgt := 87) rfl (lw_usual hX hL hi hI k1)
  | 34, _ => exact qv_table (tt := 89) (by decide +kernel) (tgt := 89) rfl (lw_breach hX hL hi hI k1)
  | 35, _ => exact qv_table (tt := 97) (by decide +kernel) (tgt := 97) rfl (lw_finds hX hL hi hI k1)
  | 36, _ => exact qv_table (tt := 99) (by decide +kernel) (tgt := 99) rfl (lw_image hX hL hi hI k1)
  | 37, _ => exact qv_table (tt := 101) (by decide +kernel) (tgt := 101) rfl (lw_restore hX hL hi hI k1)
  | 38, _ => exact qv_table (tt := 103) (by decide +kernel) (tgt := 103) rfl (lw_count hX hL hi hI k1)
  | 39, _ => exact qv_table (tt := 105) (by decide +kernel) (tgt := 105) rfl (lw_keep hX hL hi hI k1)
  | 40, _ => exact qv_table (tt := 107) (by decide +kernel) (tgt := 107) rfl (lw_row hX hL hi hI k1)
  | 41, _ => exact qv_table (tt := 109) (by decide +kernel) (tgt := 109) rfl (lw_put hX hL hi hI k1)
  | 42, _ => exact qv_table (tt := 111) (by decide +kernel) (tgt := 111) rfl (lw_element hX hL hi hI (fun s2 l5 l6 l7 h => kk s2 (n + 1) l5 l6 l7 (Nat.le_refl _) h))
  | 43, _ => exact qv_table (tt := 117) (by decide +kernel) (tgt := 117) rfl (lw_copy hX hL hi hI k1)
  | 44, _ => exact qv_table (tt := 119) (by decide +kernel) (tgt := 119) rfl (lw_heft hX hL hi hI k1)
  | 45, _ => exact qv_table (tt := 121) (by decide +kernel) (tgt := 121) rfl (lw_toss hX hL hi hI k1)
  | 46, _ => exact qv_table (tt := 123) (by decide +kernel) (tgt := 123) rfl k0
  | 47, _ => exact qv_table (tt := 123) (by decide +kernel) (tgt := 123) rfl k0
  | 48, _ => exact qv_table (tt := 123) (by decide +kernel) (tgt := 123) rfl k0
  | 49, _ => exact qv_table (tt := 123) (by decide +kernel) (tgt := 123) rfl k0
  | 50, _ => exact qv_table (tt := 123) (by decide +kernel) (tgt := 123) rfl k0
  | 51, _ => exact qv_table (tt := 123) (by decide +kernel) (tgt := 123) rfl k0
  | 52, _ => exact qv_table (tt := 123) (by decide +kernel) (tgt := 123) rfl k0
  | 53, _ => exact qv_table (tt := 123) (by decide +kernel) (tgt := 123) rfl k0
  | 54, _ => exact qv_table (tt := 123) (by decide +kernel) (tgt := 123) rfl k0
  | 55, _ => exact qv_table (tt := 123) (by decide +kernel) (tgt := 123) rfl k0
  | 56, _ => exact qv_table (tt := 123) (by decide +kernel) (tgt := 123) rfl k0
  | 57, _ => exact qv_table (tt := 123) (by decide +kernel) (tgt := 123) rfl k0
  | 58, _ => exact qv_table (tt := 123) (by decide +kernel) (tgt := 123) rfl k0
  | 59, _ => exact qv_table (tt := 123) (by decide +kernel) (tgt := 123) rfl k0
  | 60, _ => exact qv_table (tt := 123) (by decide +kernel) (tgt := 123) rfl k0
  | 61, _ => exact qv_table (tt := 123) (by decide +kernel) (tgt := 123) rfl k0
  | 62, _ => exact qv_table (tt := 123) (by decide +kernel) (tgt := 123) rfl k0
  | 63, _ => exact qv_table (tt := 123) (by decide +kernel) (tgt := 123) rfl k0
  | j + 64, h => exact absurd h (by omega)
theorem lw_end (h : L < 6 * n + 6) (hL : L ≤ 3072) (h0 : 6 * n ≤ L) : nI L - 6 < nI (6 * n) := by
  by_cases h6 : L < 6
  · have : n = 0 := by omega
    subst this
    rcases (show L = 0 ∨ L = 1 ∨ L = 2 ∨ L = 3 ∨ L = 4 ∨ L = 5 by omega) with rfl | rfl | rfl | rfl | rfl | rfl <;> decide
  · obtain ⟨k, rfl⟩ : ∃ k, L = k + 6 := ⟨L - 6, by omega⟩
    have e : nI (k + 6) - 6 = nI k := by
      rw [← nI_add]; show nI k + 6 - 6 = nI k
      exact Int32.add_sub_cancel _ _
    rw [e]
    exact nI_ltr (by omega) (by omega) (by omega)
theorem lw_on (h : 6 * n + 6 ≤ L) (hL : L ≤ 3072) : ¬ nI L - 6 < nI (6 * n) := by
  obtain ⟨k, rfl⟩ : ∃ k, L = k + 6 := ⟨L - 6, by omega⟩
  have e : nI (k + 6) - 6 = nI k := by
    rw [← nI_add]; show nI k + 6 - 6 = nI k
    exact Int32.add_sub_cancel _ _
  rw [e]
  exact nI_nltr (by omega) (by omega) (by omega)
theorem lw_loop (hX : pm_X0 L xs 0 = some (L, xs)) (hL : L ≤ 3072) : ∀ (fuel n c : Nat) (s : QST) (l5 l6 l7 : Option Value), 6 * n ≤ L → c ≤ n → LI c s → L < 6 * n + 6 * fuel → qW (pm_X0 L xs) (PR1 (pm_X0 L xs)) 101 ret cd_law 1 (LL (6 * n) l5 l6 l7) [] s (fun v s' => v = some (.int 1) ∧ ∃ c, c ≤ 512 ∧ LI c s') := by
  intro fuel
  induction fuel with
  | zero => intro n c s l5 l6 l7 h0 hc hI hf; omega
  | succ fuel ih =>
    intro n c s l5 l6 l7 h0 hc hI hf
    refine qW.blk rfl ?_
    refine qv_iload rfl ?_
    refine qv_aload rfl ?_
    refine qV.of (fun _ z => pe_alenX hX (by decide) z) ?_
    refine qv_iconst (v := 6) rfl ?_
    refine qv_isub ?_
    by_cases hl : L < 6 * n + 6
    · refine qv_icmp_gt_t (lw_end hl hL h0) (tgt := 124) rfl ?_
      refine qW.blk rfl ?_
      refine qv_iconst (v := 1) rfl ?_
      exact qv_iret rfl ⟨rfl, c, by omega, hI⟩
    · refine qv_icmp_gt_f (lw_on (by omega) hL) (nx := 2) rfl ?_
      refine lw_switch hX hL (by omega) hI ?_
      intro s2 n2 m5 m6 m7 hn2 hI2
      refine qW.blk rfl ?_
      refine qv_iinc (v := nI (6 * (n + 1))) (L' := LL (6 * (n + 1)) m5 m6 m7) rfl ?_ rfl ?_
      · show nI (6 * n) + nI 6 = nI (6 * (n + 1))
        rw [nI_add]; rfl
      · refine qv_goto (tgt := 1) rfl ?_
        exact ih (n + 1) n2 s2 m5 m6 m7 (by omega) (by omega) hI2 (by omega)
end
