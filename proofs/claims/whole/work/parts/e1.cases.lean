/-! printed by wip/whole/mklaw.py: the calls of the law, one a theorem -/
section
variable {L : Nat} {xs : Nat → Int32} {i n : Nat} {l5 l6 l7 : Option Value} {s : QST} {Q : QPost}
theorem lw_set (hX : pm_X0 L xs 0 = some (L, xs)) (hL : L ≤ 3072) (hi : i + 6 ≤ L) (hI : LI n s) (kk : ∀ s2, LI (n + 1) s2 → qW (pm_X0 L xs) (PR1 (pm_X0 L xs)) 101 ret cd_law 123 (LL i l5 l6 l7) [] s2 Q) : qW (pm_X0 L xs) (PR1 (pm_X0 L xs)) 101 ret cd_law 3 (LL i l5 l6 l7) [] s Q := by
  obtain ⟨r, s1, s2, hf, r1, r2, hI2⟩ := law_call (Sim_set (X := pm_X0 L xs) PR0_np  (xs (i + 1)) (xs (i + 2))) (by decide) (by decide) ms_Desk_set rfl hI
  obtain ⟨x, rfl⟩ : ∃ x, r = .int x := by cases r <;> first | exact ⟨_, rfl⟩ | cases hf
  refine qW.blk rfl ?_
  refine qv_aload rfl ?_
  refine lw_arg (k := 1) hX rfl (by omega) hL ?_
  refine lw_arg (k := 2) hX rfl (by omega) hL ?_
  refine qv_virt (ly_8.rcv _) sg_Desk_set rfl rfl ⟨_, s1, r1, ?_⟩
  refine qv_aload rfl ?_
  refine lw_arg (k := 1) hX rfl (by omega) hL ?_
  refine lw_arg (k := 2) hX rfl (by omega) hL ?_
  refine qv_virt (ly_163.rcv _) sg_Model_set rfl rfl ⟨_, s2, r2, ?_⟩
  refine qv_icmp_eq_t rfl (tgt := 123) rfl ?_
  exact kk _ hI2
theorem lw_member (hX : pm_X0 L xs 0 = some (L, xs)) (hL : L ≤ 3072) (hi : i + 6 ≤ L) (hI : LI n s) (kk : ∀ s2, LI (n + 1) s2 → qW (pm_X0 L xs) (PR1 (pm_X0 L xs)) 101 ret cd_law 123 (LL i l5 l6 l7) [] s2 Q) : qW (pm_X0 L xs) (PR1 (pm_X0 L xs)) 101 ret cd_law 5 (LL i l5 l6 l7) [] s Q := by
  obtain ⟨r, s1, s2, hf, r1, r2, hI2⟩ := law_call (Sim_member (X := pm_X0 L xs) PR0_np rfl (xs (i + 1)) (xs (i + 2))) (by decide) (by decide) ms_Desk_member rfl hI
  obtain ⟨x, rfl⟩ : ∃ x, r = .int x := by cases r <;> first | exact ⟨_, rfl⟩ | cases hf
  refine qW.blk rfl ?_
  refine qv_aload rfl ?_
  refine lw_arg (k := 1) hX rfl (by omega) hL ?_
  refine lw_arg (k := 2) hX rfl (by omega) hL ?_
  refine qv_virt (ly_8.rcv _) sg_Desk_member rfl rfl ⟨_, s1, r1, ?_⟩
  refine qv_aload rfl ?_
  refine lw_arg (k := 1) hX rfl (by omega) hL ?_
  refine lw_arg (k := 2) hX rfl (by omega) hL ?_
  refine qv_virt (ly_163.rcv _) sg_Model_member rfl rfl ⟨_, s2, r2, ?_⟩
  refine qv_icmp_eq_t rfl (tgt := 123) rfl ?_
  exact kk _ hI2
theorem lw_bought (hX : pm_X0 L xs 0 = some (L, xs)) (hL : L ≤ 3072) (hi : i + 6 ≤ L) (hI : LI n s) (kk : ∀ s2, LI (n + 1) s2 → qW (pm_X0 L xs) (PR1 (pm_X0 L xs)) 101 ret cd_law 123 (LL i l5 l6 l7) [] s2 Q) : qW (pm_X0 L xs) (PR1 (pm_X0 L xs)) 101 ret cd_law 7 (LL i l5 l6 l7) [] s Q := by
  obtain ⟨r, s1, s2, hf, r1, r2, hI2⟩ := law_call (Sim_bought (X := pm_X0 L xs) PR0_np  (xs (i + 1)) (xs (i + 2))) (by decide) (by decide) ms_Desk_bought rfl hI
  obtain ⟨x, rfl⟩ : ∃ x, r = .int x := by cases r <;> first | exact ⟨_, rfl⟩ | cases hf
  refine qW.blk rfl ?_
  refine qv_aload rfl ?_
  refine lw_arg (k := 1) hX rfl (by omega) hL ?_
  refine lw_arg (k := 2) hX rfl (by omega) hL ?_
  refine qv_virt (ly_8.rcv _) sg_Desk_bought rfl rfl ⟨_, s1, r1, ?_⟩
  refine qv_aload rfl ?_
  refine lw_arg (k := 1) hX rfl (by omega) hL ?_
  refine lw_arg (k := 2) hX rfl (by omega) hL ?_
  refine qv_virt (ly_163.rcv _) sg_Model_bought rfl rfl ⟨_, s2, r2, ?_⟩
  refine qv_icmp_eq_t rfl (tgt := 123) rfl ?_
  exact kk _ hI2
theorem lw_becomes (hX : pm_X0 L xs 0 = some (L, xs)) (hL : L ≤ 3072) (hi : i + 6 ≤ L) (hI : LI n s) (kk : ∀ s2, LI (n + 1) s2 → qW (pm_X0 L xs) (PR1 (pm_X0 L xs)) 101 ret cd_law 123 (LL i l5 l6 l7) [] s2 Q) : qW (pm_X0 L xs) (PR1 (pm_X0 L xs)) 101 ret cd_law 9 (LL i l5 l6 l7) [] s Q := by
  obtain ⟨r, s1, s2, hf, r1, r2, hI2⟩ := law_call (Sim_becomes (X := pm_X0 L xs) PR0_np rfl (xs (i + 1)) (xs (i + 2))) (by decide) (by decide) ms_Desk_becomes rfl hI
  obtain ⟨x, rfl⟩ : ∃ x, r = .int x := by cases r <;> first | exact ⟨_, rfl⟩ | cases hf
  refine qW.blk rfl ?_
  refine qv_aload rfl ?_
  refine lw_arg (k := 1) hX rfl (by omega) hL ?_
  refine lw_arg (k := 2) hX rfl (by omega) hL ?_
  refine qv_virt (ly_8.rcv _) sg_Desk_becomes rfl rfl ⟨_, s1, r1, ?_⟩
  refine qv_aload rfl ?_
  refine lw_arg (k := 1) hX rfl (by omega) hL ?_
  refine lw_arg (k := 2) hX rfl (by omega) hL ?_
  refine qv_virt (ly_163.rcv _) sg_Model_becomes rfl rfl ⟨_, s2, r2, ?_⟩
  refine qv_icmp_eq_t rfl (tgt := 123) rfl ?_
  exact kk _ hI2
theorem lw_wish (hX : pm_X0 L xs 0 = some (L, xs)) (hL : L ≤ 3072) (hi : i + 6 ≤ L) (hI : LI n s) (kk : ∀ s2, LI (n + 1) s2 → qW (pm_X0 L xs) (PR1 (pm_X0 L xs)) 101 ret cd_law 123 (LL i l5 l6 l7) [] s2 Q) : qW (pm_X0 L xs) (PR1 (pm_X0 L xs)) 101 ret cd_law 11 (LL i l5 l6 l7) [] s Q := by
  obtain ⟨r, s1, s2, hf, r1, r2, hI2⟩ := law_call (Sim_wish (X := pm_X0 L xs) PR0_np  (xs (i + 1)) (xs (i + 2)) (xs (i + 3))) (by decide) (by decide) ms_Desk_wish rfl hI
  obtain ⟨x, rfl⟩ : ∃ x, r = .int x := by cases r <;> first | exact ⟨_, rfl⟩ | cases hf
  refine qW.blk rfl ?_
  refine qv_aload rfl ?_
  refine lw_arg (k := 1) hX rfl (by omega) hL ?_
  refine lw_arg (k := 2) hX rfl (by omega) hL ?_
  refine lw_arg (k := 3) hX rfl (by omega) hL ?_
  refine qv_virt (ly_8.rcv _) sg_Desk_wish rfl rfl ⟨_, s1, r1, ?_⟩
  refine qv_aload rfl ?_
  refine lw_arg (k := 1) hX rfl (by omega) hL ?_
  refine lw_arg (k := 2) hX rfl (by omega) hL ?_
  refine lw_arg (k := 3) hX rfl (by omega) hL ?_
  refine qv_virt (ly_163.rcv _) sg_Model_wish rfl rfl ⟨_, s2, r2, ?_⟩
  refine qv_icmp_eq_t rfl (tgt := 123) rfl ?_
  exact kk _ hI2
theorem lw_doubted (hX : pm_X0 L xs 0 = some (L, xs)) (hL : L ≤ 3072) (hi : i + 6 ≤ L) (hI : LI n s) (kk : ∀ s2, LI (n + 1) s2 → qW (pm_X0 L xs) (PR1 (pm_X0 L xs)) 101 ret cd_law 123 (LL i l5 l6 l7) [] s2 Q) : qW (pm_X0 L xs) (PR1 (pm_X0 L xs)) 101 ret cd_law 13 (LL i l5 l6 l7) [] s Q := by
  obtain ⟨r, s1, s2, hf, r1, r2, hI2⟩ := law_call (Sim_doubted (X := pm_X0 L xs) PR0_np  (xs (i + 1)) (xs (i + 2)) (xs (i + 3))) (by decide) (by decide) ms_Desk_doubted rfl hI
  obtain ⟨x, rfl⟩ : ∃ x, r = .int x := by cases r <;> first | exact ⟨_, rfl⟩ | cases hf
  refine qW.blk rfl ?_
  refine qv_aload rfl ?_
  refine lw_arg (k := 1) hX rfl (by omega) hL ?_
  refine lw_arg (k := 2) hX rfl (by omega) hL ?_
  refine lw_arg (k := 3) hX rfl (by omega) hL ?_
  refine qv_virt (ly_8.rcv _) sg_Desk_doubted rfl rfl ⟨_, s1, r1, ?_⟩
  refine qv_aload rfl ?_
  refine lw_arg (k := 1) hX rfl (by omega) hL ?_
  refine lw_arg (k := 2) hX rfl (by omega) hL ?_
  refine lw_arg (k := 3) hX rfl (by omega) hL ?_
  refine qv_virt (ly_163.rcv _) sg_Model_doubted rfl rfl ⟨_, s2, r2, ?_⟩
  refine qv_icmp_eq_t rfl (tgt := 123) rfl ?_
  exact kk _ hI2
theorem lw_sure (hX : pm_X0 L xs 0 = some (L, xs)) (hL : L ≤ 3072) (hi : i + 6 ≤ L) (hI : LI n s) (kk : ∀ s2, LI (n + 1) s2 → qW (pm_X0 L xs) (PR1 (pm_X0 L xs)) 101 ret cd_law 123 (LL i l5 l6 l7) [] s2 Q) : qW (pm_X0 L xs) (PR1 (pm_X0 L xs)) 101 ret cd_law 15 (LL i l5 l6 l7) [] s Q := by
  obtain ⟨r, s1, s2, hf, r1, r2, hI2⟩ := law_call (Sim_sure (X := pm_X0 L xs) PR0_np  (xs (i + 1)) (xs (i + 2))) (by decide) (by decide) ms_Desk_sure rfl hI
  obtain ⟨x, rfl⟩ : ∃ x, r = .int x := by cases r <;> first | exact ⟨_, rfl⟩ | cases hf
  refine qW.blk rfl ?_
  refine qv_aload rfl ?_
  refine lw_arg (k := 1) hX rfl (by omega) hL ?_
  refine lw_arg (k := 2) hX rfl (by omega) hL ?_
  refine qv_virt (ly_8.rcv _) sg_Desk_sure rfl rfl ⟨_, s1, r1, ?_⟩
  refine qv_aload rfl ?_
  refine lw_arg (k := 1) hX rfl (by omega) hL ?_
  refine lw_arg (k := 2) hX rfl (by omega) hL ?_
  refine qv_virt (ly_163.rcv _) sg_Model_sure rfl rfl ⟨_, s2, r2, ?_⟩
  refine qv_icmp_eq_t rfl (tgt := 123) rfl ?_
  exact kk _ hI2
theorem lw_about (hX : pm_X0 L xs 0 = some (L, xs)) (hL : L ≤ 3072) (hi : i + 6 ≤ L) (hI : LI n s) (kk : ∀ s2, LI (n + 1) s2 → qW (pm_X0 L xs) (PR1 (pm_X0 L xs)) 101 ret cd_law 123 (LL i l5 l6 l7) [] s2 Q) : qW (pm_X0 L xs) (PR1 (pm_X0 L xs)) 101 ret cd_law 17 (LL i l5 l6 l7) [] s Q := by
  obtain ⟨r, s1, s2, hf, r1, r2, hI2⟩ := law_call (Sim_about (X := pm_X0 L xs) PR0_np  (xs (i + 1)) (xs (i + 2))) (by decide) (by decide) ms_Desk_about rfl hI
  obtain ⟨x, rfl⟩ : ∃ x, r = .int x := by cases r <;> first | exact ⟨_, rfl⟩ | cases hf
  refine qW.blk rfl ?_
  refine qv_aload rfl ?_
  refine lw_arg (k := 1) hX rfl (by omega) hL ?_
  refine lw_arg (k := 2) hX rfl (by omega) hL ?_
  refine qv_virt (ly_8.rcv _) sg_Desk_about rfl rfl ⟨_, s1, r1, ?_⟩
  refine qv_aload rfl ?_
  refine lw_arg (k := 1) hX rfl (by omega) hL ?_
  refine lw_arg (k := 2) hX rfl (by omega) hL ?_
  refine qv_virt (ly_163.rcv _) sg_Model_about rfl rfl ⟨_, s2, r2, ?_⟩
  refine qv_icmp_eq_t rfl (tgt := 123) rfl ?_
  exact kk _ hI2
theorem lw_fault (hX : pm_X0 L xs 0 = some (L, xs)) (hL : L ≤ 3072) (hi : i + 6 ≤ L) (hI : LI n s) (kk : ∀ s2, LI (n + 1) s2 → qW (pm_X0 L xs) (PR1 (pm_X0 L xs)) 101 ret cd_law 123 (LL i l5 l6 l7) [] s2 Q) : qW (pm_X0 L xs) (PR1 (pm_X0 L xs)) 101 ret cd_law 19 (LL i l5 l6 l7) [] s Q := by
  obtain ⟨r, s1, s2, hf, r1, r2, hI2⟩ := law_call (Sim_fault (X := pm_X0 L xs) PR0_np  (xs (i + 1))) (by decide) (by decide) ms_Desk_fault rfl hI
  obtain ⟨x, rfl⟩ : ∃ x, r = .int x := by cases r <;> first | exact ⟨_, rfl⟩ | cases hf
  refine qW.blk rfl ?_
  refine qv_aload rfl ?_
  refine lw_arg (k := 1) hX rfl (by omega) hL ?_
  refine qv_virt (ly_8.rcv _) sg_Desk_fault rfl rfl ⟨_, s1, r1, ?_⟩
  refine qv_aload rfl ?_
  refine lw_arg (k := 1) hX rfl (by omega) hL ?_
  refine qv_virt (ly_163.rcv _) sg_Model_fault rfl rfl ⟨_, s2, r2, ?_⟩
  refine qv_icmp_eq_t rfl (tgt := 123) rfl ?_
  exact kk _ hI2
theorem lw_tree (hX : pm_X0 L xs 0 = some (L, xs)) (hL : L ≤ 3072) (hi : i + 6 ≤ L) (hI : LI n s) (kk : ∀ s2, LI (n + 1) s2 → qW (pm_X0 L xs) (PR1 (pm_X0 L xs)) 101 ret cd_law 123 (LL i l5 l6 l7) [] s2 Q) : qW (pm_X0 L xs) (PR1 (pm_X0 L xs)) 101 ret cd_law 21 (LL i l5 l6 l7) [] s Q := by
  obtain ⟨r, s1, s2, hf, r1, r2, hI2⟩ := law_call (Sim_tree (X := pm_X0 L xs) PR0_np  (xs (i + 1))) (by decide) (by decide) ms_Desk_tree rfl hI
  obtain ⟨x, rfl⟩ : ∃ x, r = .int x := by cases r <;> first | exact ⟨_, rfl⟩ | cases hf
  refine qW.blk rfl ?_
  refine qv_aload rfl ?_
  refine lw_arg (k := 1) hX rfl (by omega) hL ?_
  refine qv_virt (ly_8.rcv _) sg_Desk_tree rfl rfl ⟨_, s1, r1, ?_⟩
  refine qv_aload rfl ?_
  refine lw_arg (k := 1) hX rfl (by omega) hL ?_
  refine qv_virt (ly_163.rcv _) sg_Model_tree rfl rfl ⟨_, s2, r2, ?_⟩
  refine qv_icmp_eq_t rfl (tgt := 123) rfl ?_
  exact kk _ hI2
theorem lw_of (hX : pm_X0 L xs 0 = some (L, xs)) (hL : L ≤ 3072) (hi : i + 6 ≤ L) (hI : LI n s) (kk : ∀ s2, LI (n + 1) s2 → qW (pm_X0 L xs) (PR1 (pm_X0 L xs)) 101 ret cd_law 123 (LL i l5 l6 l7) [] s2 Q) : qW (pm_X0 L xs) (PR1 (pm_X0 L xs)) 101 ret cd_law 23 (LL i l5 l6 l7) [] s Q := by
  obtain ⟨r, s1, s2, hf, r1, r2, hI2⟩ := law_call (Sim_of (X := pm_X0 L xs) PR0_np  (xs (i + 1)) (xs (i + 2))) (by decide) (by decide) ms_Desk_of rfl hI
  obtain ⟨x, rfl⟩ : ∃ x, r = .int x := by cases r <;> first | exact ⟨_, rfl⟩ | cases hf
  refine qW.blk rfl ?_
  refine qv_aload rfl ?_
  refine lw_arg (k := 1) hX rfl (by omega) hL ?_
  refine lw_arg (k := 2) hX rfl (by omega) hL ?_
  refine qv_virt (ly_8.rcv _) sg_Desk_of rfl rfl ⟨_, s1, r1, ?_⟩
  refine qv_aload rfl ?_
  refine lw_arg (k := 1) hX rfl (by omega) hL ?_
  refine lw_arg (k := 2) hX rfl (by omega) hL ?_
  refine qv_virt (ly_163.rcv _) sg_Model_of rfl rfl ⟨_, s2, r2, ?_⟩
  refine qv_icmp_eq_t rfl (tgt := 123) rfl ?_
  exact kk _ hI2
theorem lw_beat (hX : pm_X0 L xs 0 = some (L, xs)) (hL : L ≤ 3072) (hi : i + 6 ≤ L) (hI : LI n s) (kk : ∀ s2, LI (n + 1) s2 → qW (pm_X0 L xs) (PR1 (pm_X0 L xs)) 101 ret cd_law 123 (LL i l5 l6 l7) [] s2 Q) : qW (pm_X0 L xs) (PR1 (pm_X0 L xs)) 101 ret cd_law 25 (LL i l5 l6 l7) [] s Q := by
  obtain ⟨r, s1, s2, hf, r1, r2, hI2⟩ := law_call (Sim_beat (X := pm_X0 L xs) PR0_np  (xs (i + 1)) (xs (i + 2))) (by decide) (by decide) ms_Desk_beat rfl hI
  obtain ⟨x, rfl⟩ : ∃ x, r = .int x := by cases r <;> first | exact ⟨_, rfl⟩ | cases hf
  refine qW.blk rfl ?_
  refine qv_aload rfl ?_
  refine lw_arg (k := 1) hX rfl (by omega) hL ?_
  refine lw_arg (k := 2) hX rfl (by omega) hL ?_
  refine qv_virt (ly_8.rcv _) sg_Desk_beat rfl rfl ⟨_, s1, r1, ?_⟩
  refine qv_aload rfl ?_
  refine lw_arg (k := 1) hX rfl (by omega) hL ?_
  refine lw_arg (k := 2) hX rfl (by omega) hL ?_
  refine qv_virt (ly_163.rcv _) sg_Model_beat rfl rfl ⟨_, s2, r2, ?_⟩
  refine qv_icmp_eq_t rfl (tgt := 123) rfl ?_
  exact kk _ hI2
theorem lw_stands (hX : pm_X0 L xs 0 = some (L, xs)) (hL : L ≤ 3072) (hi : i + 6 ≤ L) (hI : LI n s) (kk : ∀ s2, LI (n + 1) s2 → qW (pm_X0 L xs) (PR1 (pm_X0 L xs)) 101 ret cd_law 123 (LL i l5 l6 l7) [] s2 Q) : qW (pm_X0 L xs) (PR1 (pm_X0 L xs)) 101 ret cd_law 27 (LL i l5 l6 l7) [] s Q := by
  obtain ⟨r, s1, s2, hf, r1, r2, hI2⟩ := law_call (Sim_stands (X := pm_X0 L xs) PR0_np  (xs (i + 1)) (xs (i + 2))) (by decide) (by decide) ms_Desk_stands rfl hI
  obtain ⟨x, rfl⟩ : ∃ x, r = .int x := by cases r <;> first | exact ⟨_, rfl⟩ | cases hf
  refine qW.blk rfl ?_
  refine qv_aload rfl ?_
  refine lw_arg (k := 1) hX rfl (by omega) hL ?_
  refine lw_arg (k := 2) hX rfl (by omega) hL ?_
  refine qv_virt (ly_8.rcv _) sg_Desk_stands rfl rfl ⟨_, s1, r1, ?_⟩
  refine qv_aload rfl ?_
  refine lw_arg (k := 1) hX rfl (by omega) hL ?_
  refine lw_arg (k := 2) hX rfl (by omega) hL ?_
  refine qv_virt (ly_163.rcv _) sg_Model_stands rfl rfl ⟨_, s2, r2, ?_⟩
  refine qv_icmp_eq_t rfl (tgt := 123) rfl ?_
  exact kk _ hI2
theorem lw_run (hX : pm_X0 L xs 0 = some (L, xs)) (hL : L ≤ 3072) (hi : i + 6 ≤ L) (hI : LI n s) (kk : ∀ s2, LI (n + 1) s2 → qW (pm_X0 L xs) (PR1 (pm_X0 L xs)) 101 ret cd_law 123 (LL i l5 l6 l7) [] s2 Q) : qW (pm_X0 L xs) (PR1 (pm_X0 L xs)) 101 ret cd_law 29 (LL i l5 l6 l7) [] s Q := by
  obtain ⟨r, s1, s2, hf, r1, r2, hI2⟩ := law_call (Sim_run (X := pm_X0 L xs) PR0_np  (xs (i + 1))) (by decide) (by decide) ms_Desk_run rfl hI
  obtain ⟨x, rfl⟩ : ∃ x, r = .int x := by cases r <;> first | exact ⟨_, rfl⟩ | cases hf
  refine qW.blk rfl ?_
  refine qv_aload rfl ?_
  refine lw_arg (k := 1) hX rfl (by omega) hL ?_
  refine qv_virt (ly_8.rcv _) sg_Desk_run rfl rfl ⟨_, s1, r1, ?_⟩
  refine qv_aload rfl ?_
  refine lw_arg (k := 1) hX rfl (by omega) hL ?_
  refine qv_virt (ly_163.rcv _) sg_Model_run rfl rfl ⟨_, s2, r2, ?_⟩
  refine qv_icmp_eq_t rfl (tgt := 123) rfl ?_
  exact kk _ hI2
theorem lw_ask (hX : pm_X0 L xs 0 = some (L, xs)) (hL : L ≤ 3072) (hi : i + 6 ≤ L) (hI : LI n s) (kk : ∀ s2, LI (n + 1) s2 → qW (pm_X0 L xs) (PR1 (pm_X0 L xs)) 101 ret cd_law 123 (LL i l5 l6 l7) [] s2 Q) : qW (pm_X0 L xs) (PR1 (pm_X0 L xs)) 101 ret cd_law 31 (LL i l5 l6 l7) [] s Q := by
  obtain ⟨r, s1, s2, hf, r1, r2, hI2⟩ := law_call (Sim_ask (X := pm_X0 L xs) PR0_np  (xs (i + 1)) (xs (i + 2)) (xs (i + 3))) (by decide) (by decide) ms_Desk_ask rfl hI
  obtain ⟨x, rfl⟩ : ∃ x, r = .int x := by cases r <;> first | exact ⟨_, rfl⟩ | cases hf
  refine qW.blk rfl ?_
  refine qv_aload rfl ?_
  refine lw_arg (k := 1) hX rfl (by omega) hL ?_
  refine lw_arg (k := 2) hX rfl (by omega) hL ?_
  refine lw_arg (k := 3) hX rfl (by omega) hL ?_
  refine qv_virt (ly_8.rcv _) sg_Desk_ask rfl rfl ⟨_, s1, r1, ?_⟩
  refine qv_aload rfl ?_
  refine lw_arg (k := 1) hX rfl (by omega) hL ?_
  refine lw_arg (k := 2) hX rfl (by omega) hL ?_
  refine lw_arg (k := 3) hX rfl (by omega) hL ?_
  refine qv_virt (ly_163.rcv _) sg_Model_ask rfl rfl ⟨_, s2, r2, ?_⟩
  refine qv_icmp_eq_t rfl (tgt := 123) rfl ?_
  exact kk _ hI2
theorem lw_wonBy (hX : pm_X0 L xs 0 = some (L, xs)) (hL : L ≤ 3072) (hi : i + 6 ≤ L) (hI : LI n s) (kk : ∀ s2, LI (n + 1) s2 → qW (pm_X0 L xs) (PR1 (pm_X0 L xs)) 101 ret cd_law 123 (LL i l5 l6 l7) [] s2 Q) : qW (pm_X0 L xs) (PR1 (pm_X0 L xs)) 101 ret cd_law 33 (LL i l5 l6 l7) [] s Q := by
  obtain ⟨r, s1, s2, hf, r1, r2, hI2⟩ := law_call (Sim_wonBy (X := pm_X0 L xs) PR0_np  (xs (i + 1)) (xs (i + 2))) (by decide) (by decide) ms_Desk_wonBy rfl hI
  obtain ⟨x, rfl⟩ : ∃ x, r = .int x := by cases r <;> first | exact ⟨_, rfl⟩ | cases hf
  refine qW.blk rfl ?_
  refine qv_aload rfl ?_
  refine lw_arg (k := 1) hX rfl (by omega) hL ?_
  refine lw_arg (k := 2) hX rfl (by omega) hL ?_
  refine qv_virt (ly_8.rcv _) sg_Desk_wonBy rfl rfl ⟨_, s1, r1, ?_⟩
  refine qv_aload rfl ?_
  refine lw_arg (k := 1) hX rfl (by omega) hL ?_
  refine lw_arg (k := 2) hX rfl (by omega) hL ?_
  refine qv_virt (ly_163.rcv _) sg_Model_wonBy rfl rfl ⟨_, s2, r2, ?_⟩
  refine qv_icmp_eq_t rfl (tgt := 123) rfl ?_
  exact kk _ hI2
theorem lw_why (hX : pm_X0 L xs 0 = some (L, xs)) (hL : L ≤ 3072) (hi : i + 6 ≤ L) (hI : LI n s) (kk : ∀ s2, LI (n + 1) s2 → qW (pm_X0 L xs) (PR1 (pm_X0 L xs)) 101 ret cd_law 123 (LL i l5 l6 l7) [] s2 Q) : qW (pm_X0 L xs) (PR1 (pm_X0 L xs)) 101 ret cd_law 35 (LL i l5 l6 l7) [] s Q := by
  obtain ⟨r, s1, s2, hf, r1, r2, hI2⟩ := law_call (Sim_why (X := pm_X0 L xs) PR0_np  (xs (i + 1)) (xs (i + 2)) (xs (i + 3))) (by decide) (by decide) ms_Desk_why rfl hI
  obtain ⟨x, rfl⟩ : ∃ x, r = .int x := by cases r <;> first | exact ⟨_, rfl⟩ | cases hf
  refine qW.blk rfl ?_
  refine qv_aload rfl ?_
  refine lw_arg (k := 1) hX rfl (by omega) hL ?_
  refine lw_arg (k := 2) hX rfl (by omega) hL ?_
  refine lw_arg (k := 3) hX rfl (by omega) hL ?_
  refine qv_virt (ly_8.rcv _) sg_Desk_why rfl rfl ⟨_, s1, r1, ?_⟩
  refine qv_aload rfl ?_
  refine lw_arg (k := 1) hX rfl (by omega) hL ?_
  refine lw_arg (k := 2) hX rfl (by omega) hL ?_
  refine lw_arg (k := 3) hX rfl (by omega) hL ?_
  refine qv_virt (ly_163.rcv _) sg_Model_why rfl rfl ⟨_, s2, r2, ?_⟩
  refine qv_icmp_eq_t rfl (tgt := 123) rfl ?_
  exact kk _ hI2
theorem lw_ifAll (hX : pm_X0 L xs 0 = some (L, xs)) (hL : L ≤ 3072) (hi : i + 6 ≤ L) (hI : LI n s) (kk : ∀ s2, LI (n + 1) s2 → qW (pm_X0 L xs) (PR1 (pm_X0 L xs)) 101 ret cd_law 123 (LL i l5 l6 l7) [] s2 Q) : qW (pm_X0 L xs) (PR1 (pm_X0 L xs)) 101 ret cd_law 37 (LL i l5 l6 l7) [] s Q := by
  obtain ⟨r, s1, s2, hf, r1, r2, hI2⟩ := law_call (Sim_ifAll (X := pm_X0 L xs) PR0_np  (xs (i + 1)) (xs (i + 2))) (by decide) (by decide) ms_Desk_ifAll rfl hI
  obtain ⟨x, rfl⟩ : ∃ x, r = .int x := by cases r <;> first | exact ⟨_, rfl⟩ | cases hf
  refine qW.blk rfl ?_
  refine qv_aload rfl ?_
  refine lw_arg (k := 1) hX rfl (by omega) hL ?_
  refine lw_arg (k := 2) hX rfl (by omega) hL ?_
  refine qv_virt (ly_8.rcv _) sg_Desk_ifAll rfl rfl ⟨_, s1, r1, ?_⟩
  refine qv_aload rfl ?_
  refine lw_arg (k := 1) hX rfl (by omega) hL ?_
  refine lw_arg (k := 2) hX rfl (by omega) hL ?_
  refine qv_virt (ly_163.rcv _) sg_Model_ifAll rfl rfl ⟨_, s2, r2, ?_⟩
  refine qv_icmp_eq_t rfl (tgt := 123) rfl ?_
  exact kk _ hI2
theorem lw_parts (hX : pm_X0 L xs 0 = some (L, xs)) (hL : L ≤ 3072) (hi : i + 6 ≤ L) (hI : LI n s) (kk : ∀ s2, LI (n + 1) s2 → qW (pm_X0 L xs) (PR1 (pm_X0 L xs)) 101 ret cd_law 123 (LL i l5 l6 l7) [] s2 Q) : qW (pm_X0 L xs) (PR1 (pm_X0 L xs)) 101 ret cd_law 39 (LL i l5 l6 l7) [] s Q := by
  obtain ⟨r, s1, s2, hf, r1, r2, hI2⟩ := law_call (Sim_parts (X := pm_X0 L xs) PR0_np  (xs (i + 1))) (by decide) (by decide) ms_Desk_parts rfl hI
  obtain ⟨x, rfl⟩ : ∃ x, r = .int x := by cases r <;> first | exact ⟨_, rfl⟩ | cases hf
  refine qW.blk rfl ?_
  refine qv_aload rfl ?_
  refine lw_arg (k := 1) hX rfl (by omega) hL ?_
  refine qv_virt (ly_8.rcv _) sg_Desk_parts rfl rfl ⟨_, s1, r1, ?_⟩
  refine qv_aload rfl ?_
  refine lw_arg (k := 1) hX rfl (by omega) hL ?_
  refine qv_virt (ly_163.rcv _) sg_Model_parts rfl rfl ⟨_, s2, r2, ?_⟩
  refine qv_icmp_eq_t rfl (tgt := 123) rfl ?_
  exact kk _ hI2
theorem lw_order (hX : pm_X0 L xs 0 = some (L, xs)) (hL : L ≤ 3072) (hi : i + 6 ≤ L) (hI : LI n s) (kk : ∀ s2, LI (n + 1) s2 → qW (pm_X0 L xs) (PR1 (pm_X0 L xs)) 101 ret cd_law 123 (LL i l5 l6 l7) [] s2 Q) : qW (pm_X0 L xs) (PR1 (pm_X0 L xs)) 101 ret cd_law 41 (LL i l5 l6 l7) [] s Q := by
  by_cases hz : xs (i + 2) = 0
  · skip
    obtain ⟨r, s1, s2, hf, r1, r2, hI2⟩ := law_call (Sim_order (X := pm_X0 L xs) PR0_np  (xs (i + 1)) 0) (by decide) (by decide) ms_Desk_order rfl hI
    obtain ⟨x, rfl⟩ : ∃ x, r = .int x := by cases r <;> first | exact ⟨_, rfl⟩ | cases hf
    refine qW.blk rfl ?_
    refine qv_aload rfl ?_
    refine lw_arg (k := 1) hX rfl (by omega) hL ?_
    refine lw_arg (k := 2) hX rfl (by omega) hL ?_
    refine qv_if_eq_t hz (tgt := 43) rfl ?_
    refine qW.blk rfl ?_
    refine qv_iconst (v := 0) rfl ?_
    refine qv_nil (nx := 44) rfl ?_
    refine qW.blk rfl ?_
    refine qv_virt (ly_8.rcv _) sg_Desk_order rfl rfl ⟨_, s1, r1, ?_⟩
    refine qv_aload rfl ?_
    refine lw_arg (k := 1) hX rfl (by omega) hL ?_
    refine lw_arg (k := 2) hX rfl (by omega) hL ?_
    refine qv_if_eq_t hz (tgt := 46) rfl ?_
    refine qW.blk rfl ?_
    refine qv_iconst (v := 0) rfl ?_
    refine qv_nil (nx := 47) rfl ?_
    refine qW.blk rfl ?_
    refine qv_virt (ly_163.rcv _) sg_Model_order rfl rfl ⟨_, s2, r2, ?_⟩
    refine qv_icmp_eq_t rfl (tgt := 123) rfl ?_
    exact kk _ hI2
  · skip
    obtain ⟨r, s1, s2, hf, r1, r2, hI2⟩ := law_call (Sim_order (X := pm_X0 L xs) PR0_np  (xs (i + 1)) 1) (by decide) (by decide) ms_Desk_order rfl hI
    obtain ⟨x, rfl⟩ : ∃ x, r = .int x := by cases r <;> first | exact ⟨_, rfl⟩ | cases hf
    refine qW.blk rfl ?_
    refine qv_aload rfl ?_
    refine lw_arg (k := 1) hX rfl (by omega) hL ?_
    refine lw_arg (k := 2) hX rfl (by omega) hL ?_
    refine qv_if_eq_f hz (nx := 42) rfl ?_
    refine qW.blk rfl ?_
    refine qv_iconst (v := 1) rfl ?_
    refine qv_goto (tgt := 44) rfl ?_
    refine qW.blk rfl ?_
    refine qv_virt (ly_8.rcv _) sg_Desk_order rfl rfl ⟨_, s1, r1, ?_⟩
    refine qv_aload rfl ?_
    refine lw_arg (k := 1) hX rfl (by omega) hL ?_
    refine lw_arg (k := 2) hX rfl (by omega) hL ?_
    refine qv_if_eq_f hz (nx := 45) rfl ?_
    refine qW.blk rfl ?_
    refine qv_iconst (v := 1) rfl ?_
    refine qv_goto (tgt := 47) rfl ?_
    refine qW.blk rfl ?_
    refine qv_virt (ly_163.rcv _) sg_Model_order rfl rfl ⟨_, s2, r2, ?_⟩
    refine qv_icmp_eq_t rfl (tgt := 123) rfl ?_
    exact kk _ hI2
theorem lw_reach (hX : pm_X0 L xs 0 = some (L, xs)) (hL : L ≤ 3072) (hi : i + 6 ≤ L) (hI : LI n s) (kk : ∀ s2, LI (n + 1) s2 → qW (pm_X0 L xs) (PR1 (pm_X0 L xs)) 101 ret cd_law 123 (LL i l5 l6 l7) [] s2 Q) : qW (pm_X0 L xs) (PR1 (pm_X0 L xs)) 101 ret cd_law 49 (LL i l5 l6 l7) [] s Q := by
  by_cases hz : xs (i + 1) = 0
  · skip
    obtain ⟨r, s1, s2, hf, r1, r2, hI2⟩ := law_call (Sim_reach (X := pm_X0 L xs) PR0_np  0) (by decide) (by decide) ms_Desk_reach rfl hI
    obtain ⟨x, rfl⟩ : ∃ x, r = .int x := by cases r <;> first | exact ⟨_, rfl⟩ | cases hf
    refine qW.blk rfl ?_
    refine qv_aload rfl ?_
    refine lw_arg (k := 1) hX rfl (by omega) hL ?_
    refine qv_if_eq_t hz (tgt := 51) rfl ?_
    refine qW.blk rfl ?_
    refine qv_iconst (v := 0) rfl ?_
    refine qv_nil (nx := 52) rfl ?_
    refine qW.blk rfl ?_
    refine qv_virt (ly_8.rcv _) sg_Desk_reach rfl rfl ⟨_, s1, r1, ?_⟩
    refine qv_aload rfl ?_
    refine lw_arg (k := 1) hX rfl (by omega) hL ?_
    refine qv_if_eq_t hz (tgt := 54) rfl ?_
    refine qW.blk rfl ?_
    refine qv_iconst (v := 0) rfl ?_
    refine qv_nil (nx := 55) rfl ?_
    refine qW.blk rfl ?_
    refine qv_virt (ly_163.rcv _) sg_Model_reach rfl rfl ⟨_, s2, r2, ?_⟩
    refine qv_icmp_eq_t rfl (tgt := 123) rfl ?_
    exact kk _ hI2
  · skip
    obtain ⟨r, s1, s2, hf, r1, r2, hI2⟩ := law_call (Sim_reach (X := pm_X0 L xs) PR0_np  1) (by decide) (by decide) ms_Desk_reach rfl hI
    obtain ⟨x, rfl⟩ : ∃ x, r = .int x := by cases r <;> first | exact ⟨_, rfl⟩ | cases hf
    refine qW.blk rfl ?_
    refine qv_aload rfl ?_
    refine lw_arg (k := 1) hX rfl (by omega) hL ?_
    refine qv_if_eq_f hz (nx := 50) rfl ?_
    refine qW.blk rfl ?_
    refine qv_iconst (v := 1) rfl ?_
    refine qv_goto (tgt := 52) rfl ?_
    refine qW.blk rfl ?_
    refine qv_virt (ly_8.rcv _) sg_Desk_reach rfl rfl ⟨_, s1, r1, ?_⟩
    refine qv_aload rfl ?_
    refine lw_arg (k := 1) hX rfl (by omega) hL ?_
    refine qv_if_eq_f hz (nx := 53) rfl ?_
    refine qW.blk rfl ?_
    refine qv_iconst (v := 1) rfl ?_
    refine qv_goto (tgt := 55) rfl ?_
    refine qW.blk rfl ?_
    refine qv_virt (ly_163.rcv _) sg_Model_reach rfl rfl ⟨_, s2, r2, ?_⟩
    refine qv_icmp_eq_t rfl (tgt := 123) rfl ?_
    exact kk _ hI2
theorem lw_first (hX : pm_X0 L xs 0 = some (L, xs)) (hL : L ≤ 3072) (hi : i + 6 ≤ L) (hI : LI n s) (kk : ∀ s2, LI (n + 1) s2 → qW (pm_X0 L xs) (PR1 (pm_X0 L xs)) 101 ret cd_law 123 (LL i l5 l6 l7) [] s2 Q) : qW (pm_X0 L xs) (PR1 (pm_X0 L xs)) 101 ret cd_law 57 (LL i l5 l6 l7) [] s Q := by
  by_cases hz : xs (i + 2) = 0
  · skip
    obtain ⟨r, s1, s2, hf, r1, r2, hI2⟩ := law_call (Sim_first (X := pm_X0 L xs) PR0_np  (xs (i + 1)) 0) (by decide) (by decide) ms_Desk_first rfl hI
    obtain ⟨x, rfl⟩ : ∃ x, r = .int x := by cases r <;> first | exact ⟨_, rfl⟩ | cases hf
    refine qW.blk rfl ?_
    refine qv_aload rfl ?_
    refine lw_arg (k := 1) hX rfl (by omega) hL ?_
    refine lw_arg (k := 2) hX rfl (by omega) hL ?_
    refine qv_if_eq_t hz (tgt := 59) rfl ?_
    refine qW.blk rfl ?_
    refine qv_iconst (v := 0) rfl ?_
    refine qv_nil (nx := 60) rfl ?_
    refine qW.blk rfl ?_
    refine qv_virt (ly_8.rcv _) sg_Desk_first rfl rfl ⟨_, s1, r1, ?_⟩
    refine qv_aload rfl ?_
    refine lw_arg (k := 1) hX rfl (by omega) hL ?_
    refine lw_arg (k := 2) hX rfl (by omega) hL ?_
    refine qv_if_eq_t hz (tgt := 62) rfl ?_
    refine qW.blk rfl ?_
    refine qv_iconst (v := 0) rfl ?_
    refine qv_nil (nx := 63) rfl ?_
    refine qW.blk rfl ?_
    refine qv_virt (ly_163.rcv _) sg_Model_first rfl rfl ⟨_, s2, r2, ?_⟩
    refine qv_icmp_eq_t rfl (tgt := 123) rfl ?_
    exact kk _ hI2
  · skip
    obtain ⟨r, s1, s2, hf, r1, r2, hI2⟩ := law_call (Sim_first (X := pm_X0 L xs) PR0_np  (xs (i + 1)) 1) (by decide) (by decide) ms_Desk_first rfl hI
    obtain ⟨x, rfl⟩ : ∃ x, r = .int x := by cases r <;> first | exact ⟨_, rfl⟩ | cases hf
    refine qW.blk rfl ?_
    refine qv_aload rfl ?_
    refine lw_arg (k := 1) hX rfl (by omega) hL ?_
    refine lw_arg (k := 2) hX rfl (by omega) hL ?_
    refine qv_if_eq_f hz (nx := 58) rfl ?_
    refine qW.blk rfl ?_
    refine qv_iconst (v := 1) rfl ?_
    refine qv_goto (tgt := 60) rfl ?_
    refine qW.blk rfl ?_
    refine qv_virt (ly_8.rcv _) sg_Desk_first rfl rfl ⟨_, s1, r1, ?_⟩
    refine qv_aload rfl ?_
    refine lw_arg (k := 1) hX rfl (by omega) hL ?_
    refine lw_arg (k := 2) hX rfl (by omega) hL ?_
    refine qv_if_eq_f hz (nx := 61) rfl ?_
    refine qW.blk rfl ?_
    refine qv_iconst (v := 1) rfl ?_
    refine qv_goto (tgt := 63) rfl ?_
    refine qW.blk rfl ?_
    refine qv_virt (ly_163.rcv _) sg_Model_first rfl rfl ⟨_, s2, r2, ?_⟩
    refine qv_icmp_eq_t rfl (tgt := 123) rfl ?_
    exact kk _ hI2
theorem lw_best (hX : pm_X0 L xs 0 = some (L, xs)) (hL : L ≤ 3072) (hi : i + 6 ≤ L) (hI : LI n s) (kk : ∀ s2, LI (n + 1) s2 → qW (pm_X0 L xs) (PR1 (pm_X0 L xs)) 101 ret cd_law 123 (LL i l5 l6 l7) [] s2 Q) : qW (pm_X0 L xs) (PR1 (pm_X0 L xs)) 101 ret cd_law 65 (LL i l5 l6 l7) [] s Q := by
  obtain ⟨r, s1, s2, hf, r1, r2, hI2⟩ := law_call (Sim_best (X := pm_X0 L xs) PR0_np  ) (by decide) (by decide) ms_Desk_best rfl hI
  obtain ⟨x, rfl⟩ : ∃ x, r = .int x := by cases r <;> first | exact ⟨_, rfl⟩ | cases hf
  refine qW.blk rfl ?_
  refine qv_aload rfl ?_
  refine qv_virt (ly_8.rcv _) sg_Desk_best rfl rfl ⟨_, s1, r1, ?_⟩
  refine qv_aload rfl ?_
  refine qv_virt (ly_163.rcv _) sg_Model_best rfl rfl ⟨_, s2, r2, ?_⟩
  refine qv_icmp_eq_t rfl (tgt := 123) rfl ?_
  exact kk _ hI2
theorem lw_top (hX : pm_X0 L xs 0 = some (L, xs)) (hL : L ≤ 3072) (hi : i + 6 ≤ L) (hI : LI n s) (kk : ∀ s2, LI (n + 1) s2 → qW (pm_X0 L xs) (PR1 (pm_X0 L xs)) 101 ret cd_law 123 (LL i l5 l6 l7) [] s2 Q) : qW (pm_X0 L xs) (PR1 (pm_X0 L xs)) 101 ret cd_law 67 (LL i l5 l6 l7) [] s Q := by
  obtain ⟨r, s1, s2, hf, r1, r2, hI2⟩ := law_call (Sim_top (X := pm_X0 L xs) PR0_np  (xs (i + 1))) (by decide) (by decide) ms_Desk_top rfl hI
  obtain ⟨x, rfl⟩ : ∃ x, r = .int x := by cases r <;> first | exact ⟨_, rfl⟩ | cases hf
  refine qW.blk rfl ?_
  refine qv_aload rfl ?_
  refine lw_arg (k := 1) hX rfl (by omega) hL ?_
  refine qv_virt (ly_8.rcv _) sg_Desk_top rfl rfl ⟨_, s1, r1, ?_⟩
  refine qv_aload rfl ?_
  refine lw_arg (k := 1) hX rfl (by omega) hL ?_
  refine qv_virt (ly_163.rcv _) sg_Model_top rfl rfl ⟨_, s2, r2, ?_⟩
  refine qv_icmp_eq_t rfl (tgt := 123) rfl ?_
  exact kk _ hI2
theorem lw_killers (hX : pm_X0 L xs 0 = some (L, xs)) (hL : L ≤ 3072) (hi : i + 6 ≤ L) (hI : LI n s) (kk : ∀ s2, LI (n + 1) s2 → qW (pm_X0 L xs) (PR1 (pm_X0 L xs)) 101 ret cd_law 123 (LL i l5 l6 l7) [] s2 Q) : qW (pm_X0 L xs) (PR1 (pm_X0 L xs)) 101 ret cd_law 69 (LL i l5 l6 l7) [] s Q := by
  obtain ⟨r, s1, s2, hf, r1, r2, hI2⟩ := law_call (Sim_killers (X := pm_X0 L xs) PR0_np  (xs (i + 1))) (by decide) (by decide) ms_Desk_killers rfl hI
  obtain ⟨x, rfl⟩ : ∃ x, r = .int x := by cases r <;> first | exact ⟨_, rfl⟩ | cases hf
  refine qW.blk rfl ?_
  refine qv_aload rfl ?_
  refine lw_arg (k := 1) hX rfl (by omega) hL ?_
  refine qv_virt (ly_8.rcv _) sg_Desk_killers rfl rfl ⟨_, s1, r1, ?_⟩
  refine qv_aload rfl ?_
  refine lw_arg (k := 1) hX rfl (by omega) hL ?_
  refine qv_virt (ly_163.rcv _) sg_Model_killers rfl rfl ⟨_, s2, r2, ?_⟩
  refine qv_icmp_eq_t rfl (tgt := 123) rfl ?_
  exact kk _ hI2
theorem lw_shields (hX : pm_X0 L xs 0 = some (L, xs)) (hL : L ≤ 3072) (hi : i + 6 ≤ L) (hI : LI n s) (kk : ∀ s2, LI (n + 1) s2 → qW (pm_X0 L xs) (PR1 (pm_X0 L xs)) 101 ret cd_law 123 (LL i l5 l6 l7) [] s2 Q) : qW (pm_X0 L xs) (PR1 (pm_X0 L xs)) 101 ret cd_law 71 (LL i l5 l6 l7) [] s Q := by
  obtain ⟨r, s1, s2, hf, r1, r2, hI2⟩ := law_call (Sim_shields (X := pm_X0 L xs) PR0_np  (xs (i + 1)) (xs (i + 2))) (by decide) (by decide) ms_Desk_shields rfl hI
  obtain ⟨x, rfl⟩ : ∃ x, r = .int x := by cases r <;> first | exact ⟨_, rfl⟩ | cases hf
  refine qW.blk rfl ?_
  refine qv_aload rfl ?_
  refine lw_arg (k := 1) hX rfl (by omega) hL ?_
  refine lw_arg (k := 2) hX rfl (by omega) hL ?_
  refine qv_virt (ly_8.rcv _) sg_Desk_shields rfl rfl ⟨_, s1, r1, ?_⟩
  refine qv_aload rfl ?_
  refine lw_arg (k := 1) hX rfl (by omega) hL ?_
  refine lw_arg (k := 2) hX rfl (by omega) hL ?_
  refine qv_virt (ly_163.rcv _) sg_Model_shields rfl rfl ⟨_, s2, r2, ?_⟩
  refine qv_icmp_eq_t rfl (tgt := 123) rfl ?_
  exact kk _ hI2
theorem lw_tell (hX : pm_X0 L xs 0 = some (L, xs)) (hL : L ≤ 3072) (hi : i + 6 ≤ L) (hI : LI n s) (kk : ∀ s2, LI (n + 1) s2 → qW (pm_X0 L xs) (PR1 (pm_X0 L xs)) 101 ret cd_law 123 (LL i l5 l6 l7) [] s2 Q) : qW (pm_X0 L xs) (PR1 (pm_X0 L xs)) 101 ret cd_law 73 (LL i l5 l6 l7) [] s Q := by
  obtain ⟨r, s1, s2, hf, r1, r2, hI2⟩ := law_call (Sim_tell (X := pm_X0 L xs) PR0_np  (xs (i + 1)) (xs (i + 2))) (by decide) (by decide) ms_Desk_tell rfl hI
  obtain ⟨x, rfl⟩ : ∃ x, r = .int x := by cases r <;> first | exact ⟨_, rfl⟩ | cases hf
  refine qW.blk rfl ?_
  refine qv_aload rfl ?_
  refine lw_arg (k := 1) hX rfl (by omega) hL ?_
  refine lw_arg (k := 2) hX rfl (by omega) hL ?_
  refine qv_virt (ly_8.rcv _) sg_Desk_tell rfl rfl ⟨_, s1, r1, ?_⟩
  refine qv_aload rfl ?_
  refine lw_arg (k := 1) hX rfl (by omega) hL ?_
  refine lw_arg (k := 2) hX rfl (by omega) hL ?_
  refine qv_virt (ly_163.rcv _) sg_Model_tell rfl rfl ⟨_, s2, r2, ?_⟩
  refine qv_icmp_eq_t rfl (tgt := 123) rfl ?_
  exact kk _ hI2
theorem lw_falseVote (hX : pm_X0 L xs 0 = some (L, xs)) (hL : L ≤ 3072) (hi : i + 6 ≤ L) (hI : LI n s) (kk : ∀ s2, LI (n + 1) s2 → qW (pm_X0 L xs) (PR1 (pm_X0 L xs)) 101 ret cd_law 123 (LL i l5 l6 l7) [] s2 Q) : qW (pm_X0 L xs) (PR1 (pm_X0 L xs)) 101 ret cd_law 75 (LL i l5 l6 l7) [] s Q := by
  obtain ⟨r, s1, s2, hf, r1, r2, hI2⟩ := law_call (Sim_falseVote (X := pm_X0 L xs) PR0_np  (xs (i + 1)) (xs (i + 2))) (by decide) (by decide) ms_Desk_falseVote rfl hI
  obtain ⟨x, rfl⟩ : ∃ x, r = .int x := by cases r <;> first | exact ⟨_, rfl⟩ | cases hf
  refine qW.blk rfl ?_
  refine qv_aload rfl ?_
  refine lw_arg (k := 1) hX rfl (by omega) hL ?_
  refine lw_arg (k := 2) hX rfl (by omega) hL ?_
  refine qv_virt (ly_8.rcv _) sg_Desk_falseVote rfl rfl ⟨_, s1, r1, ?_⟩
  refine qv_aload rfl ?_
  refine lw_arg (k := 1) hX rfl (by omega) hL ?_
  refine lw_arg (k := 2) hX rfl (by omega) hL ?_
  refine qv_virt (ly_163.rcv _) sg_Model_falseVote rfl rfl ⟨_, s2, r2, ?_⟩
  refine qv_icmp_eq_t rfl (tgt := 123) rfl ?_
  exact kk _ hI2
theorem lw_chance (hX : pm_X0 L xs 0 = some (L, xs)) (hL : L ≤ 3072) (hi : i + 6 ≤ L) (hI : LI n s) (kk : ∀ s2, LI (n + 1) s2 → qW (pm_X0 L xs) (PR1 (pm_X0 L xs)) 101 ret cd_law 123 (LL i l5 l6 l7) [] s2 Q) : qW (pm_X0 L xs) (PR1 (pm_X0 L xs)) 101 ret cd_law 77 (LL i l5 l6 l7) [] s Q := by
  obtain ⟨r, s1, s2, hf, r1, r2, hI2⟩ := law_call (Sim_chance (X := pm_X0 L xs) PR0_np  (xs (i + 1)) (xs (i + 2))) (by decide) (by decide) ms_Desk_chance rfl hI
  obtain ⟨x, rfl⟩ : ∃ x, r = .long x := by cases r <;> first | exact ⟨_, rfl⟩ | cases hf
  refine qW.blk rfl ?_
  refine qv_aload rfl ?_
  refine lw_arg (k := 1) hX rfl (by omega) hL ?_
  refine lw_arg (k := 2) hX rfl (by omega) hL ?_
  refine qv_virt (ly_8.rcv _) sg_Desk_chance rfl rfl ⟨_, s1, r1, ?_⟩
  refine qv_aload rfl ?_
  refine lw_arg (k := 1) hX rfl (by omega) hL ?_
  refine lw_arg (k := 2) hX rfl (by omega) hL ?_
  refine qv_virt (ly_163.rcv _) sg_Model_chance rfl rfl ⟨_, s2, r2, ?_⟩
  refine qv_lcmp ?_
  refine qv_if_eq_t lg_self (tgt := 123) rfl ?_
  exact kk _ hI2
theorem lw_boughtOff (hX : pm_X0 L xs 0 = some (L, xs)) (hL : L ≤ 3072) (hi : i + 6 ≤ L) (hI : LI n s) (kk : ∀ s2, LI (n + 1) s2 → qW (pm_X0 L xs) (PR1 (pm_X0 L xs)) 101 ret cd_law 123 (LL i l5 l6 l7) [] s2 Q) : qW (pm_X0 L xs) (PR1 (pm_X0 L xs)) 101 ret cd_law 79 (LL i l5 l6 l7) [] s Q := by
  obtain ⟨r, s1, s2, hf, r1, r2, hI2⟩ := law_call (Sim_boughtOff (X := pm_X0 L xs) PR0_np  (xs (i + 1)) (xs (i + 2))) (by decide) (by decide) ms_Desk_boughtOff rfl hI
  obtain ⟨x, rfl⟩ : ∃ x, r = .int x := by cases r <;> first | exact ⟨_, rfl⟩ | cases hf
  refine qW.blk rfl ?_
  refine qv_aload rfl ?_
  refine lw_arg (k := 1) hX rfl (by omega) hL ?_
  refine lw_arg (k := 2) hX rfl (by omega) hL ?_
  refine qv_virt (ly_8.rcv _) sg_Desk_boughtOff rfl rfl ⟨_, s1, r1, ?_⟩
  refine qv_aload rfl ?_
  refine lw_arg (k := 1) hX rfl (by omega) hL ?_
  refine lw_arg (k := 2) hX rfl (by omega) hL ?_
  refine qv_virt (ly_163.rcv _) sg_Model_boughtOff rfl rfl ⟨_, s2, r2, ?_⟩
  refine qv_icmp_eq_t rfl (tgt := 123) rfl ?_
  exact kk _ hI2
theorem lw_bestLie (hX : pm_X0 L xs 0 = some (L, xs)) (hL : L ≤ 3072) (hi : i + 6 ≤ L) (hI : LI n s) (kk : ∀ s2, LI (n + 1) s2 → qW (pm_X0 L xs) (PR1 (pm_X0 L xs)) 101 ret cd_law 123 (LL i l5 l6 l7) [] s2 Q) : qW (pm_X0 L xs) (PR1 (pm_X0 L xs)) 101 ret cd_law 81 (LL i l5 l6 l7) [] s Q := by
  obtain ⟨r, s1, s2, hf, r1, r2, hI2⟩ := law_call (Sim_bestLie (X := pm_X0 L xs) PR0_np  (xs (i + 1)) (xs (i + 2)) (xs (i + 3))) (by decide) (by decide) ms_Desk_bestLie rfl hI
  obtain ⟨x, rfl⟩ : ∃ x, r = .int x := by cases r <;> first | exact ⟨_, rfl⟩ | cases hf
  refine qW.blk rfl ?_
  refine qv_aload rfl ?_
  refine lw_arg (k := 1) hX rfl (by omega) hL ?_
  refine lw_arg (k := 2) hX rfl (by omega) hL ?_
  refine lw_arg (k := 3) hX rfl (by omega) hL ?_
  refine qv_virt (ly_8.rcv _) sg_Desk_bestLie rfl rfl ⟨_, s1, r1, ?_⟩
  refine qv_aload rfl ?_
  refine lw_arg (k := 1) hX rfl (by omega) hL ?_
  refine lw_arg (k := 2) hX rfl (by omega) hL ?_
  refine lw_arg (k := 3) hX rfl (by omega) hL ?_
  refine qv_virt (ly_163.rcv _) sg_Model_bestLie rfl rfl ⟨_, s2, r2, ?_⟩
  refine qv_icmp_eq_t rfl (tgt := 123) rfl ?_
  exact kk _ hI2
theorem lw_surely (hX : pm_X0 L xs 0 = some (L, xs)) (hL : L ≤ 3072) (hi : i + 6 ≤ L) (hI : LI n s) (kk : ∀ s2, LI (n + 1) s2 → qW (pm_X0 L xs) (PR1 (pm_X0 L xs)) 101 ret cd_law 123 (LL i l5 l6 l7) [] s2 Q) : qW (pm_X0 L xs) (PR1 (pm_X0 L xs)) 101 ret cd_law 83 (LL i l5 l6 l7) [] s Q := by
  obtain ⟨r, s1, s2, hf, r1, r2, hI2⟩ := law_call (Sim_surely (X := pm_X0 L xs) PR0_np  (xs (i + 1)) (xs (i + 2)) (xs (i + 3))) (by decide) (by decide) ms_Desk_surely rfl hI
  obtain ⟨x, rfl⟩ : ∃ x, r = .int x := by cases r <;> first | exact ⟨_, rfl⟩ | cases hf
  refine qW.blk rfl ?_
  refine qv_aload rfl ?_
  refine lw_arg (k := 1) hX rfl (by omega) hL ?_
  refine lw_arg (k := 2) hX rfl (by omega) hL ?_
  refine lw_arg (k := 3) hX rfl (by omega) hL ?_
  refine qv_virt (ly_8.rcv _) sg_Desk_surely rfl rfl ⟨_, s1, r1, ?_⟩
  refine qv_aload rfl ?_
  refine lw_arg (k := 1) hX rfl (by omega) hL ?_
  refine lw_arg (k := 2) hX rfl (by omega) hL ?_
  refine lw_arg (k := 3) hX rfl (by omega) hL ?_
  refine qv_virt (ly_163.rcv _) sg_Model_surely rfl rfl ⟨_, s2, r2, ?_⟩
  refine qv_icmp_eq_t rfl (tgt := 123) rfl ?_
  exact kk _ hI2
theorem lw_ring (hX : pm_X0 L xs 0 = some (L, xs)) (hL : L ≤ 3072) (hi : i + 6 ≤ L) (hI : LI n s) (kk : ∀ s2, LI (n + 1) s2 → qW (pm_X0 L xs) (PR1 (pm_X0 L xs)) 101 ret cd_law 123 (LL i l5 l6 l7) [] s2 Q) : qW (pm_X0 L xs) (PR1 (pm_X0 L xs)) 101 ret cd_law 85 (LL i l5 l6 l7) [] s Q := by
  obtain ⟨r, s1, s2, hf, r1, r2, hI2⟩ := law_call (Sim_ring (X := pm_X0 L xs) PR0_np  (xs (i + 1))) (by decide) (by decide) ms_Desk_ring rfl hI
  obtain ⟨x, rfl⟩ : ∃ x, r = .int x := by cases r <;> first | exact ⟨_, rfl⟩ | cases hf
  refine qW.blk rfl ?_
  refine qv_aload rfl ?_
  refine lw_arg (k := 1) hX rfl (by omega) hL ?_
  refine qv_virt (ly_8.rcv _) sg_Desk_ring rfl rfl ⟨_, s1, r1, ?_⟩
  refine qv_aload rfl ?_
  refine lw_arg (k := 1) hX rfl (by omega) hL ?_
  refine qv_virt (ly_163.rcv _) sg_Model_ring rfl rfl ⟨_, s2, r2, ?_⟩
  refine qv_icmp_eq_t rfl (tgt := 123) rfl ?_
  exact kk _ hI2
theorem lw_usual (hX : pm_X0 L xs 0 = some (L, xs)) (hL : L ≤ 3072) (hi : i + 6 ≤ L) (hI : LI n s) (kk : ∀ s2, LI (n + 1) s2 → qW (pm_X0 L xs) (PR1 (pm_X0 L xs)) 101 ret cd_law 123 (LL i l5 l6 l7) [] s2 Q) : qW (pm_X0 L xs) (PR1 (pm_X0 L xs)) 101 ret cd_law 87 (LL i l5 l6 l7) [] s Q := by
  obtain ⟨r, s1, s2, hf, r1, r2, hI2⟩ := law_call (Sim_usual (X := pm_X0 L xs) PR0_np  (xs (i + 1))) (by decide) (by decide) ms_Desk_usual rfl hI
  obtain ⟨x, rfl⟩ : ∃ x, r = .int x := by cases r <;> first | exact ⟨_, rfl⟩ | cases hf
  refine qW.blk rfl ?_
  refine qv_aload rfl ?_
  refine lw_arg (k := 1) hX rfl (by omega) hL ?_
  refine qv_virt (ly_8.rcv _) sg_Desk_usual rfl rfl ⟨_, s1, r1, ?_⟩
  refine qv_aload rfl ?_
  refine lw_arg (k := 1) hX rfl (by omega) hL ?_
  refine qv_virt (ly_163.rcv _) sg_Model_usual rfl rfl ⟨_, s2, r2, ?_⟩
  refine qv_icmp_eq_t rfl (tgt := 123) rfl ?_
  exact kk _ hI2
theorem lw_breach (hX : pm_X0 L xs 0 = some (L, xs)) (hL : L ≤ 3072) (hi : i + 6 ≤ L) (hI : LI n s) (kk : ∀ s2, LI (n + 1) s2 → qW (pm_X0 L xs) (PR1 (pm_X0 L xs)) 101 ret cd_law 123 (LL i l5 l6 l7) [] s2 Q) : qW (pm_X0 L xs) (PR1 (pm_X0 L xs)) 101 ret cd_law 89 (LL i l5 l6 l7) [] s Q := by
  by_cases hz : xs (i + 4) = 0
  · skip
    obtain ⟨r, s1, s2, hf, r1, r2, hI2⟩ := law_call (Sim_breach (X := pm_X0 L xs) PR0_np rfl rfl rfl (xs (i + 1)) (xs (i + 2)) (xs (i + 3)) 0) (by decide) (by decide) ms_Desk_breach rfl hI
    obtain ⟨x, rfl⟩ : ∃ x, r = .int x := by cases r <;> first | exact ⟨_, rfl⟩ | cases hf
    refine qW.blk rfl ?_
    refine qv_aload rfl ?_
    refine lw_arg (k := 1) hX rfl (by omega) hL ?_
    refine lw_arg (k := 2) hX rfl (by omega) hL ?_
    refine lw_arg (k := 3) hX rfl (by omega) hL ?_
    refine lw_arg (k := 4) hX rfl (by omega) hL ?_
    refine qv_if_eq_t hz (tgt := 91) rfl ?_
    refine qW.blk rfl ?_
    refine qv_iconst (v := 0) rfl ?_
    refine qv_nil (nx := 92) rfl ?_
    refine qW.blk rfl ?_
    refine qv_virt (ly_8.rcv _) sg_Desk_breach rfl rfl ⟨_, s1, r1, ?_⟩
    refine qv_aload rfl ?_
    refine lw_arg (k := 1) hX rfl (by omega) hL ?_
    refine lw_arg (k := 2) hX rfl (by omega) hL ?_
    refine lw_arg (k := 3) hX rfl (by omega) hL ?_
    refine lw_arg (k := 4) hX rfl (by omega) hL ?_
    refine qv_if_eq_t hz (tgt := 94) rfl ?_
    refine qW.blk rfl ?_
    refine qv_iconst (v := 0) rfl ?_
    refine qv_nil (nx := 95) rfl ?_
    refine qW.blk rfl ?_
    refine qv_virt (ly_163.rcv _) sg_Model_breach rfl rfl ⟨_, s2, r2, ?_⟩
    refine qv_icmp_eq_t rfl (tgt := 123) rfl ?_
    exact kk _ hI2
  · skip
    obtain ⟨r, s1, s2, hf, r1, r2, hI2⟩ := law_call (Sim_breach (X := pm_X0 L xs) PR0_np rfl rfl rfl (xs (i + 1)) (xs (i + 2)) (xs (i + 3)) 1) (by decide) (by decide) ms_Desk_breach rfl hI
    obtain ⟨x, rfl⟩ : ∃ x, r = .int x := by cases r <;> first | exact ⟨_, rfl⟩ | cases hf
    refine qW.blk rfl ?_
    refine qv_aload rfl ?_
    refine lw_arg (k := 1) hX rfl (by omega) hL ?_
    refine lw_arg (k := 2) hX rfl (by omega) hL ?_
    refine lw_arg (k := 3) hX rfl (by omega) hL ?_
    refine lw_arg (k := 4) hX rfl (by omega) hL ?_
    refine qv_if_eq_f hz (nx := 90) rfl ?_
    refine qW.blk rfl ?_
    refine qv_iconst (v := 1) rfl ?_
    refine qv_goto (tgt := 92) rfl ?_
    refine qW.blk rfl ?_
    refine qv_virt (ly_8.rcv _) sg_Desk_breach rfl rfl ⟨_, s1, r1, ?_⟩
    refine qv_aload rfl ?_
    refine lw_arg (k := 1) hX rfl (by omega) hL ?_
    refine lw_arg (k := 2) hX rfl (by omega) hL ?_
    refine lw_arg (k := 3) hX rfl (by omega) hL ?_
    refine lw_arg (k := 4) hX rfl (by omega) hL ?_
    refine qv_if_eq_f hz (nx := 93) rfl ?_
    refine qW.blk rfl ?_
    refine qv_iconst (v := 1) rfl ?_
    refine qv_goto (tgt := 95) rfl ?_
    refine qW.blk rfl ?_
    refine qv_virt (ly_163.rcv _) sg_Model_breach rfl rfl ⟨_, s2, r2, ?_⟩
    refine qv_icmp_eq_t rfl (tgt := 123) rfl ?_
    exact kk _ hI2
theorem lw_finds (hX : pm_X0 L xs 0 = some (L, xs)) (hL : L ≤ 3072) (hi : i + 6 ≤ L) (hI : LI n s) (kk : ∀ s2, LI (n + 1) s2 → qW (pm_X0 L xs) (PR1 (pm_X0 L xs)) 101 ret cd_law 123 (LL i l5 l6 l7) [] s2 Q) : qW (pm_X0 L xs) (PR1 (pm_X0 L xs)) 101 ret cd_law 97 (LL i l5 l6 l7) [] s Q := by
  obtain ⟨r, s1, s2, hf, r1, r2, hI2⟩ := law_call (Sim_finds (X := pm_X0 L xs) PR0_np  (xs (i + 1)) (xs (i + 2))) (by decide) (by decide) ms_Desk_finds rfl hI
  obtain ⟨x, rfl⟩ : ∃ x, r = .int x := by cases r <;> first | exact ⟨_, rfl⟩ | cases hf
  refine qW.blk rfl ?_
  refine qv_aload rfl ?_
  refine lw_arg (k := 1) hX rfl (by omega) hL ?_
  refine lw_arg (k := 2) hX rfl (by omega) hL ?_
  refine qv_virt (ly_8.rcv _) sg_Desk_finds rfl rfl ⟨_, s1, r1, ?_⟩
  refine qv_aload rfl ?_
  refine lw_arg (k := 1) hX rfl (by omega) hL ?_
  refine lw_arg (k := 2) hX rfl (by omega) hL ?_
  refine qv_virt (ly_163.rcv _) sg_Model_finds rfl rfl ⟨_, s2, r2, ?_⟩
  refine qv_icmp_eq_t rfl (tgt := 123) rfl ?_
  exact kk _ hI2
theorem lw_image (hX : pm_X0 L xs 0 = some (L, xs)) (hL : L ≤ 3072) (hi : i + 6 ≤ L) (hI : LI n s) (kk : ∀ s2, LI (n + 1) s2 → qW (pm_X0 L xs) (PR1 (pm_X0 L xs)) 101 ret cd_law 123 (LL i l5 l6 l7) [] s2 Q) : qW (pm_X0 L xs) (PR1 (pm_X0 L xs)) 101 ret cd_law 99 (LL i l5 l6 l7) [] s Q := by
  obtain ⟨r, s1, s2, hf, r1, r2, hI2⟩ := law_call (Sim_image (X := pm_X0 L xs) PR0_np  ) (by decide) (by decide) ms_Desk_image rfl hI
  obtain ⟨x, rfl⟩ : ∃ x, r = .int x := by cases r <;> first | exact ⟨_, rfl⟩ | cases hf
  refine qW.blk rfl ?_
  refine qv_aload rfl ?_
  refine qv_virt (ly_8.rcv _) sg_Desk_image rfl rfl ⟨_, s1, r1, ?_⟩
  refine qv_aload rfl ?_
  refine qv_virt (ly_163.rcv _) sg_Model_image rfl rfl ⟨_, s2, r2, ?_⟩
  refine qv_icmp_eq_t rfl (tgt := 123) rfl ?_
  exact kk _ hI2
theorem lw_restore (hX : pm_X0 L xs 0 = some (L, xs)) (hL : L ≤ 3072) (hi : i + 6 ≤ L) (hI : LI n s) (kk : ∀ s2, LI (n + 1) s2 → qW (pm_X0 L xs) (PR1 (pm_X0 L xs)) 101 ret cd_law 123 (LL i l5 l6 l7) [] s2 Q) : qW (pm_X0 L xs) (PR1 (pm_X0 L xs)) 101 ret cd_law 101 (LL i l5 l6 l7) [] s Q := by
  obtain ⟨r, s1, s2, hf, r1, r2, hI2⟩ := law_call (Sim_restore (X := pm_X0 L xs) PR0_np  ) (by decide) (by decide) ms_Desk_restore rfl hI
  obtain ⟨x, rfl⟩ : ∃ x, r = .int x := by cases r <;> first | exact ⟨_, rfl⟩ | cases hf
  refine qW.blk rfl ?_
  refine qv_aload rfl ?_
  refine qv_virt (ly_8.rcv _) sg_Desk_restore rfl rfl ⟨_, s1, r1, ?_⟩
  refine qv_aload rfl ?_
  refine qv_virt (ly_163.rcv _) sg_Model_restore rfl rfl ⟨_, s2, r2, ?_⟩
  refine qv_icmp_eq_t rfl (tgt := 123) rfl ?_
  exact kk _ hI2
theorem lw_count (hX : pm_X0 L xs 0 = some (L, xs)) (hL : L ≤ 3072) (hi : i + 6 ≤ L) (hI : LI n s) (kk : ∀ s2, LI (n + 1) s2 → qW (pm_X0 L xs) (PR1 (pm_X0 L xs)) 101 ret cd_law 123 (LL i l5 l6 l7) [] s2 Q) : qW (pm_X0 L xs) (PR1 (pm_X0 L xs)) 101 ret cd_law 103 (LL i l5 l6 l7) [] s Q := by
  obtain ⟨r, s1, s2, hf, r1, r2, hI2⟩ := law_call (Sim_count (X := pm_X0 L xs) PR0_np  (xs (i + 1))) (by decide) (by decide) ms_Desk_count rfl hI
  obtain ⟨x, rfl⟩ : ∃ x, r = .int x := by cases r <;> first | exact ⟨_, rfl⟩ | cases hf
  refine qW.blk rfl ?_
  refine qv_aload rfl ?_
  refine lw_arg (k := 1) hX rfl (by omega) hL ?_
  refine qv_virt (ly_8.rcv _) sg_Desk_count rfl rfl ⟨_, s1, r1, ?_⟩
  refine qv_aload rfl ?_
  refine lw_arg (k := 1) hX rfl (by omega) hL ?_
  refine qv_virt (ly_163.rcv _) sg_Model_count rfl rfl ⟨_, s2, r2, ?_⟩
  refine qv_icmp_eq_t rfl (tgt := 123) rfl ?_
  exact kk _ hI2
theorem lw_keep (hX : pm_X0 L xs 0 = some (L, xs)) (hL : L ≤ 3072) (hi : i + 6 ≤ L) (hI : LI n s) (kk : ∀ s2, LI (n + 1) s2 → qW (pm_X0 L xs) (PR1 (pm_X0 L xs)) 101 ret cd_law 123 (LL i l5 l6 l7) [] s2 Q) : qW (pm_X0 L xs) (PR1 (pm_X0 L xs)) 101 ret cd_law 105 (LL i l5 l6 l7) [] s Q := by
  obtain ⟨r, s1, s2, hf, r1, r2, hI2⟩ := law_call (Sim_keep (X := pm_X0 L xs) PR0_np  (xs (i + 1)) (xs (i + 2)) (xs (i + 3))) (by decide) (by decide) ms_Desk_keep rfl hI
  obtain ⟨x, rfl⟩ : ∃ x, r = .int x := by cases r <;> first | exact ⟨_, rfl⟩ | cases hf
  refine qW.blk rfl ?_
  refine qv_aload rfl ?_
  refine lw_arg (k := 1) hX rfl (by omega) hL ?_
  refine lw_arg (k := 2) hX rfl (by omega) hL ?_
  refine lw_arg (k := 3) hX rfl (by omega) hL ?_
  refine qv_virt (ly_8.rcv _) sg_Desk_keep rfl rfl ⟨_, s1, r1, ?_⟩
  refine qv_aload rfl ?_
  refine lw_arg (k := 1) hX rfl (by omega) hL ?_
  refine lw_arg (k := 2) hX rfl (by omega) hL ?_
  refine lw_arg (k := 3) hX rfl (by omega) hL ?_
  refine qv_virt (ly_163.rcv _) sg_Model_keep rfl rfl ⟨_, s2, r2, ?_⟩
  refine qv_icmp_eq_t rfl (tgt := 123) rfl ?_
  exact kk _ hI2
theorem lw_row (hX : pm_X0 L xs 0 = some (L, xs)) (hL : L ≤ 3072) (hi : i + 6 ≤ L) (hI : LI n s) (kk : ∀ s2, LI (n + 1) s2 → qW (pm_X0 L xs) (PR1 (pm_X0 L xs)) 101 ret cd_law 123 (LL i l5 l6 l7) [] s2 Q) : qW (pm_X0 L xs) (PR1 (pm_X0 L xs)) 101 ret cd_law 107 (LL i l5 l6 l7) [] s Q := by
  obtain ⟨r, s1, s2, hf, r1, r2, hI2⟩ := law_call (Sim_row (X := pm_X0 L xs) PR0_np  (xs (i + 1)) (xs (i + 2)) (xs (i + 3))) (by decide) (by decide) ms_Desk_row rfl hI
  obtain ⟨x, rfl⟩ : ∃ x, r = .int x := by cases r <;> first | exact ⟨_, rfl⟩ | cases hf
  refine qW.blk rfl ?_
  refine qv_aload rfl ?_
  refine lw_arg (k := 1) hX rfl (by omega) hL ?_
  refine lw_arg (k := 2) hX rfl (by omega) hL ?_
  refine lw_arg (k := 3) hX rfl (by omega) hL ?_
  refine qv_virt (ly_8.rcv _) sg_Desk_row rfl rfl ⟨_, s1, r1, ?_⟩
  refine qv_aload rfl ?_
  refine lw_arg (k := 1) hX rfl (by omega) hL ?_
  refine lw_arg (k := 2) hX rfl (by omega) hL ?_
  refine lw_arg (k := 3) hX rfl (by omega) hL ?_
  refine qv_virt (ly_163.rcv _) sg_Model_row rfl rfl ⟨_, s2, r2, ?_⟩
  refine qv_icmp_eq_t rfl (tgt := 123) rfl ?_
  exact kk _ hI2
theorem lw_put (hX : pm_X0 L xs 0 = some (L, xs)) (hL : L ≤ 3072) (hi : i + 6 ≤ L) (hI : LI n s) (kk : ∀ s2, LI (n + 1) s2 → qW (pm_X0 L xs) (PR1 (pm_X0 L xs)) 101 ret cd_law 123 (LL i l5 l6 l7) [] s2 Q) : qW (pm_X0 L xs) (PR1 (pm_X0 L xs)) 101 ret cd_law 109 (LL i l5 l6 l7) [] s Q := by
  obtain ⟨r, s1, s2, hf, r1, r2, hI2⟩ := law_call (Sim_put (X := pm_X0 L xs) PR0_np  (xs (i + 1)) (xs (i + 2)) (xs (i + 3))) (by decide) (by decide) ms_Desk_put rfl hI
  obtain ⟨x, rfl⟩ : ∃ x, r = .int x := by cases r <;> first | exact ⟨_, rfl⟩ | cases hf
  refine qW.blk rfl ?_
  refine qv_aload rfl ?_
  refine lw_arg (k := 1) hX rfl (by omega) hL ?_
  refine lw_arg (k := 2) hX rfl (by omega) hL ?_
  refine lw_arg (k := 3) hX rfl (by omega) hL ?_
  refine qv_virt (ly_8.rcv _) sg_Desk_put rfl rfl ⟨_, s1, r1, ?_⟩
  refine qv_aload rfl ?_
  refine lw_arg (k := 1) hX rfl (by omega) hL ?_
  refine lw_arg (k := 2) hX rfl (by omega) hL ?_
  refine lw_arg (k := 3) hX rfl (by omega) hL ?_
  refine qv_virt (ly_163.rcv _) sg_Model_put rfl rfl ⟨_, s2, r2, ?_⟩
  refine qv_icmp_eq_t rfl (tgt := 123) rfl ?_
  exact kk _ hI2
theorem lw_copy (hX : pm_X0 L xs 0 = some (L, xs)) (hL : L ≤ 3072) (hi : i + 6 ≤ L) (hI : LI n s) (kk : ∀ s2, LI (n + 1) s2 → qW (pm_X0 L xs) (PR1 (pm_X0 L xs)) 101 ret cd_law 123 (LL i l5 l6 l7) [] s2 Q) : qW (pm_X0 L xs) (PR1 (pm_X0 L xs)) 101 ret cd_law 117 (LL i l5 l6 l7) [] s Q := by
  obtain ⟨r, s1, s2, hf, r1, r2, hI2⟩ := law_call (Sim_copy (X := pm_X0 L xs) PR0_np  (xs (i + 1)) (xs (i + 2)) (xs (i + 3)) (xs (i + 4)) (xs (i + 5))) (by decide) (by decide) ms_Desk_copy rfl hI
  obtain ⟨x, rfl⟩ : ∃ x, r = .int x := by cases r <;> first | exact ⟨_, rfl⟩ | cases hf
  refine qW.blk rfl ?_
  refine qv_aload rfl ?_
  refine lw_arg (k := 1) hX rfl (by omega) hL ?_
  refine lw_arg (k := 2) hX rfl (by omega) hL ?_
  refine lw_arg (k := 3) hX rfl (by omega) hL ?_
  refine lw_arg (k := 4) hX rfl (by omega) hL ?_
  refine lw_arg (k := 5) hX rfl (by omega) hL ?_
  refine qv_virt (ly_8.rcv _) sg_Desk_copy rfl rfl ⟨_, s1, r1, ?_⟩
  refine qv_aload rfl ?_
  refine lw_arg (k := 1) hX rfl (by omega) hL ?_
  refine lw_arg (k := 2) hX rfl (by omega) hL ?_
  refine lw_arg (k := 3) hX rfl (by omega) hL ?_
  refine lw_arg (k := 4) hX rfl (by omega) hL ?_
  refine lw_arg (k := 5) hX rfl (by omega) hL ?_
  refine qv_virt (ly_163.rcv _) sg_Model_copy rfl rfl ⟨_, s2, r2, ?_⟩
  refine qv_icmp_eq_t rfl (tgt := 123) rfl ?_
  exact kk _ hI2
theorem lw_heft (hX : pm_X0 L xs 0 = some (L, xs)) (hL : L ≤ 3072) (hi : i + 6 ≤ L) (hI : LI n s) (kk : ∀ s2, LI (n + 1) s2 → qW (pm_X0 L xs) (PR1 (pm_X0 L xs)) 101 ret cd_law 123 (LL i l5 l6 l7) [] s2 Q) : qW (pm_X0 L xs) (PR1 (pm_X0 L xs)) 101 ret cd_law 119 (LL i l5 l6 l7) [] s Q := by
  obtain ⟨r, s1, s2, hf, r1, r2, hI2⟩ := law_call (Sim_heft (X := pm_X0 L xs) PR0_np  (xs (i + 1))) (by decide) (by decide) ms_Desk_heft rfl hI
  obtain ⟨x, rfl⟩ : ∃ x, r = .int x := by cases r <;> first | exact ⟨_, rfl⟩ | cases hf
  refine qW.blk rfl ?_
  refine qv_aload rfl ?_
  refine lw_arg (k := 1) hX rfl (by omega) hL ?_
  refine qv_virt (ly_8.rcv _) sg_Desk_heft rfl rfl ⟨_, s1, r1, ?_⟩
  refine qv_aload rfl ?_
  refine lw_arg (k := 1) hX rfl (by omega) hL ?_
  refine qv_virt (ly_163.rcv _) sg_Model_heft rfl rfl ⟨_, s2, r2, ?_⟩
  refine qv_icmp_eq_t rfl (tgt := 123) rfl ?_
  exact kk _ hI2
end
