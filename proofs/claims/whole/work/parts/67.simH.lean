/-! copy is alike -/
theorem sub_lt {z I N : Nat} (hz : z ≤ 120) (hI : I < 2 ^ 31) (hN : N < 2 ^ 31) : (nI z - nI N < nI I) ↔ z < I + N := by
  have e : (nI z - nI N).toInt = (z : Int) - N := by
    rw [Int32.toInt_sub, nI_toInt (by omega), nI_toInt hN]
    exact Int.bmod_eq_of_le (by omega) (by omega)
  rw [Int32.lt_iff_toInt_lt, e, nI_toInt hI]
  omega
section
variable {X : pm_X} {PR : pm_P}
theorem w_hasPlaces_y (hP : pm_np PR) {d : Nat} (hd : 2 ≤ d) {s : QST} {Q : QPost} {k z I N : Nat} (hk8 : k < 8) (h2 : qF s (123 + 5 * k) 2 = nI z) (hz : z ≤ 120) (hIN : I + N ≤ z) (hk : Q (some (.int 1)) s) : qP X PR d 102 [.ref (123 + 5 * k), .int (nI I), .int (nI N)] s Q := by
  refine qP.of (L := [_, _, _]) (by omega) (hP _ rfl) ms_Shelf_hasPlaces rfl ?_
  show qW X PR (d - 1) (some .boolean) cd_Shelf_hasPlaces 0 _ _ _ _
  refine qW.blk rfl ?_
  refine qv_iload rfl ?_
  refine qv_iconst (v := 0) rfl ?_
  refine qv_aload rfl ?_
  refine qv_gi (ly_sh (d := k) (by omega)) ⟨rfl, rfl, rfl⟩ (h2) ?_
  refine qv_staticE sg_Desk_within rfl (r_Desk_within hP (by omega) (nI I) (nI 0) (nI z) _) ?_
  refine qv_if_eq_f (bI_ne.mpr ((w_iff (lo := 0) (by omega) (by omega) (by omega)).mpr ⟨by omega, by omega⟩)) (nx := 1) rfl ?_
  refine qW.blk rfl ?_
  refine qv_iload rfl ?_
  refine qv_iconst (v := 0) rfl ?_
  refine qv_aload rfl ?_
  refine qv_gi (ly_sh (d := k) (by omega)) ⟨rfl, rfl, rfl⟩ (h2) ?_
  refine qv_iload rfl ?_
  refine qv_isubN rfl rfl (by omega) ?_
  refine qv_staticE sg_Desk_within rfl (r_Desk_within hP (by omega) (nI N) (nI 0) (nI (z - I)) _) ?_
  refine qv_if_eq_f (bI_ne.mpr ((w_iff (lo := 0) (by omega) (by omega) (by omega)).mpr ⟨by omega, by omega⟩)) (nx := 2) rfl ?_
  refine qW.blk rfl ?_
  refine qv_iconst (v := 1) rfl ?_
  refine qv_goto (tgt := 4) rfl ?_
  refine qW.blk rfl ?_
  refine qv_iret (by first | exact bI_ret | rfl) ?_
  exact hk
theorem w_hasPlaces_n (hP : pm_np PR) {d : Nat} (hd : 2 ≤ d) {s : QST} {Q : QPost} {k z : Nat} {i n : Int32} (hk8 : k < 8) (h2 : qF s (123 + 5 * k) 2 = nI z) (hz : z ≤ 120) (hIN : ¬ ∃ I N, i = nI I ∧ n = nI N ∧ I + N ≤ z) (hk : Q (some (.int 0)) s) : qP X PR d 102 [.ref (123 + 5 * k), .int i, .int n] s Q := by
  refine qP.of (L := [_, _, _]) (by omega) (hP _ rfl) ms_Shelf_hasPlaces rfl ?_
  show qW X PR (d - 1) (some .boolean) cd_Shelf_hasPlaces 0 _ _ _ _
  by_cases hi : 0 ≤ i ∧ i ≤ nI z
  · obtain ⟨I, hI, rfl⟩ := (in_nI (by omega)).mp hi
    have hn : ¬ (0 ≤ n ∧ n ≤ nI (z - I)) := fun q => by
      obtain ⟨N, n1, n2⟩ := (in_nI (by omega)).mp q
      exact hIN ⟨I, N, rfl, n2, by omega⟩
    have b0 : qW X PR (d - 1) (some .boolean) cd_Shelf_hasPlaces 0 [some (.ref (123 + 5 * k)), some (.int (nI I)), some (.int (n))] [] s Q := by
      refine qW.blk rfl ?_
      refine qv_iload rfl ?_
      refine qv_iconst (v := 0) rfl ?_
      refine qv_aload rfl ?_
      refine qv_gi (ly_sh (d := k) (by omega)) ⟨rfl, rfl, rfl⟩ (h2) ?_
      refine qv_staticE sg_Desk_within rfl (r_Desk_within hP (by omega) (nI I) 0 (nI z) _) ?_
      refine qv_if_eq_f (bI_ne.mpr (hi)) (nx := 1) rfl ?_
      refine qW.blk rfl ?_
      refine qv_iload rfl ?_
      refine qv_iconst (v := 0) rfl ?_
      refine qv_aload rfl ?_
      refine qv_gi (ly_sh (d := k) (by omega)) ⟨rfl, rfl, rfl⟩ (h2) ?_
      refine qv_iload rfl ?_
      refine qv_isubN rfl rfl (by omega) ?_
      refine qv_staticE sg_Desk_within rfl (r_Desk_within hP (by omega) n 0 (nI (z - I)) _) ?_
      refine qv_if_eq_t (bI_f (hn)) (tgt := 3) rfl ?_
      refine qW.blk rfl ?_
      refine qv_iconst (v := 0) rfl ?_
      refine qv_nil (nx := 4) rfl ?_
      refine qW.blk rfl ?_
      refine qv_iret (by first | exact bI_ret | rfl) ?_
      exact hk
    exact b0
  · refine qW.blk rfl ?_
    refine qv_iload rfl ?_
    refine qv_iconst (v := 0) rfl ?_
    refine qv_aload rfl ?_
    refine qv_gi (ly_sh (d := k) (by omega)) ⟨rfl, rfl, rfl⟩ (h2) ?_
    refine qv_staticE sg_Desk_within rfl (r_Desk_within hP (by omega) i 0 (nI z) _) ?_
    refine qv_if_eq_t (bI_f (hi)) (tgt := 3) rfl ?_
    refine qW.blk rfl ?_
    refine qv_iconst (v := 0) rfl ?_
    refine qv_nil (nx := 4) rfl ?_
    refine qW.blk rfl ?_
    refine qv_iret (by first | exact bI_ret | rfl) ?_
    exact hk
theorem Sim_copy (hP : pm_np PR) (a i b j n : Int32) : Sim X PR 158 258 [.int a, .int i, .int b, .int j, .int n] := by
  intro d A hd hA
  rcases pl_of a 8 with ⟨k, hk8, rfl⟩ | hn
  · rcases pl_of b 8 with ⟨l, hl8, rfl⟩ | hn
    · obtain ⟨s1, s2, s3, s4, -⟩ := hA.2.2.2.2 k hk8
      obtain ⟨u1, u2, u3, u4, -⟩ := hA.2.2.2.2 l hl8
      by_cases h0 : (aS A k).1 = 0 ∨ (aS A l).1 = 0
      · refine ⟨.int (-11), A, hA, ?_, ?_⟩
        · intro s Q hJ hk
          have c1 := (hJ.2.2.2.2 k hk8).1
          have d1 := (hJ.2.2.2.2 l hl8).1
          refine qP.of (L := [_, _, _, _, _, _, _, _]) (by omega) (hP _ rfl) ms_Desk_copy rfl ?_
          show qW X PR (d - 1) (some .int) cd_Desk_copy 0 _ _ _ _
          by_cases e : (aS A k).1 = 0
          · refine qW.blk rfl ?_
            refine qv_aload rfl ?_
            refine qv_iload rfl ?_
            refine qv_virtE (ly_8.rcv _) sg_Desk_shelfAt rfl rfl (r_shelfAt_y hP (by omega) hk8) ?_
            refine qv_astore (L' := [_, _, _, _, _, _, _, _]) rfl ?_
            refine qv_aload rfl ?_
            refine qv_iload rfl ?_
            refine qv_virtE (ly_8.rcv _) sg_Desk_shelfAt rfl rfl (r_shelfAt_y hP (by omega) hl8) ?_
            refine qv_astore (L' := [_, _, _, _, _, _, _, _]) rfl ?_
            refine qv_aload rfl ?_
            refine qv_null_f (nx := 1) rfl ?_
            refine qW.blk rfl ?_
            refine qv_aload rfl ?_
            refine qv_nonnull_t (tgt := 3) rfl ?_
            refine qW.blk rfl ?_
            refine qv_aload rfl ?_
            refine qv_gi (ly_sh (d := k) (by omega)) ⟨rfl, rfl, rfl⟩ (c1) ?_
            refine qv_if_eqNt rfl (by omega) (by omega) (tgt := 5) rfl ?_
            refine qW.blk rfl ?_
            refine qv_iconst (v := (-11)) rfl ?_
            refine qv_iret (rfl) ?_
            exact hk s hJ (cfr.rf s)
          · refine qW.blk rfl ?_
            refine qv_aload rfl ?_
            refine qv_iload rfl ?_
            refine qv_virtE (ly_8.rcv _) sg_Desk_shelfAt rfl rfl (r_shelfAt_y hP (by omega) hk8) ?_
            refine qv_astore (L' := [_, _, _, _, _, _, _, _]) rfl ?_
            refine qv_aload rfl ?_
            refine qv_iload rfl ?_
            refine qv_virtE (ly_8.rcv _) sg_Desk_shelfAt rfl rfl (r_shelfAt_y hP (by omega) hl8) ?_
            refine qv_astore (L' := [_, _, _, _, _, _, _, _]) rfl ?_
            refine qv_aload rfl ?_
            refine qv_null_f (nx := 1) rfl ?_
            refine qW.blk rfl ?_
            refine qv_aload rfl ?_
            refine qv_nonnull_t (tgt := 3) rfl ?_
            refine qW.blk rfl ?_
            refine qv_aload rfl ?_
            refine qv_gi (ly_sh (d := k) (by omega)) ⟨rfl, rfl, rfl⟩ (c1) ?_
            refine qv_if_eqNf rfl (by omega) (by omega) (nx := 4) rfl ?_
            refine qW.blk rfl ?_
            refine qv_aload rfl ?_
            refine qv_gi (ly_sh (d := l) (by omega)) ⟨rfl, rfl, rfl⟩ (d1) ?_
            refine qv_if_neNf rfl (by omega) (by omega) (nx := 5) rfl ?_
            refine qW.blk rfl ?_
            refine qv_iconst (v := (-11)) rfl ?_
            refine qv_iret (rfl) ?_
            exact hk s hJ (cfr.rf s)
        · intro s Q hJ hk
          have c1 := (hJ.2.2.2.2.1 k hk8).1
          have d1 := (hJ.2.2.2.2.1 l hl8).1
          refine qP.of (L := [_, _, _, _, _, _, _]) (by omega) (hP _ rfl) ms_Model_copy rfl ?_
          show qW X PR (d - 1) (some .int) cd_Model_copy 0 _ _ _ _
          by_cases e : (aS A k).1 = 0
          · refine qW.blk rfl ?_
            refine qv_aload rfl ?_
            refine qv_iconst (v := 0) rfl ?_
            refine qv_pi ly_163 ⟨rfl, rfl, rfl⟩ (rfl) ?_
            refine qv_iload rfl ?_
            refine qv_iconst (v := 0) rfl ?_
            refine qv_iconst (v := 7) rfl ?_
            refine qv_staticE sg_Model_in rfl (r_Model_in hP (by omega) (nI k) (nI 0) (nI 7) _) ?_
            refine qv_if_eq_f (bI_ne.mpr (nI7in hk8)) (nx := 1) rfl ?_
            refine qW.blk rfl ?_
            refine qv_iload rfl ?_
            refine qv_iconst (v := 0) rfl ?_
            refine qv_iconst (v := 7) rfl ?_
            refine qv_staticE sg_Model_in rfl (r_Model_in hP (by omega) (nI l) (nI 0) (nI 7) _) ?_
            refine qv_if_ne_t (bI_ne.mpr (nI7in hl8)) (tgt := 3) rfl ?_
            refine qW.blk rfl ?_
            refine qv_aload rfl ?_
            refine qv_gr ly_163 ⟨rfl, rfl, rfl⟩ (by omega) ?_
            refine qv_iload rfl ?_
            refine qv_ia ly_196 rfl (by omega) (by decide) (c1) ?_
            refine qv_if_eqNt rfl (by omega) (by omega) (tgt := 5) rfl ?_
            refine qW.blk rfl ?_
            refine qv_iconst (v := (-11)) rfl ?_
            refine qv_iret (rfl) ?_
            exact hk (uF s 163 0 0) hJ.thr ((qfr.rf s).uF (by omega))
          · refine qW.blk rfl ?_
            refine qv_aload rfl ?_
            refine qv_iconst (v := 0) rfl ?_
            refine qv_pi ly_163 ⟨rfl, rfl, rfl⟩ (rfl) ?_
            refine qv_iload rfl ?_
            refine qv_iconst (v := 0) rfl ?_
            refine qv_iconst (v := 7) rfl ?_
            refine qv_staticE sg_Model_in rfl (r_Model_in hP (by omega) (nI k) (nI 0) (nI 7) _) ?_
            refine qv_if_eq_f (bI_ne.mpr (nI7in hk8)) (nx := 1) rfl ?_
            refine qW.blk rfl ?_
            refine qv_iload rfl ?_
            refine qv_iconst (v := 0) rfl ?_
            refine qv_iconst (v := 7) rfl ?_
            refine qv_staticE sg_Model_in rfl (r_Model_in hP (by omega) (nI l) (nI 0) (nI 7) _) ?_
            refine qv_if_ne_t (bI_ne.mpr (nI7in hl8)) (tgt := 3) rfl ?_
            refine qW.blk rfl ?_
            refine qv_aload rfl ?_
            refine qv_gr ly_163 ⟨rfl, rfl, rfl⟩ (by omega) ?_
            refine qv_iload rfl ?_
            refine qv_ia ly_196 rfl (by omega) (by decide) (c1) ?_
            refine qv_if_eqNf rfl (by omega) (by omega) (nx := 4) rfl ?_
            refine qW.blk rfl ?_
            refine qv_aload rfl ?_
            refine qv_gr ly_163 ⟨rfl, rfl, rfl⟩ (by omega) ?_
            refine qv_iload rfl ?_
            refine qv_ia ly_196 rfl (by omega) (by decide) (d1) ?_
            refine qv_if_neNf rfl (by omega) (by omega) (nx := 5) rfl ?_
            refine qW.blk rfl ?_
            refine qv_iconst (v := (-11)) rfl ?_
            refine qv_iret (rfl) ?_
            exact hk (uF s 163 0 0) hJ.thr ((qfr.rf s).uF (by omega))
      by_cases h2 : (aS A k).1 = 2 ∧ (aS A l).1 = 2 ∧ (aS A k).2.1 = (aS A l).2.1
      · obtain ⟨hk2, hl2, hso⟩ := h2
        by_cases hg : (∃ I N, i = nI I ∧ n = nI N ∧ I + N ≤ (aS A k).2.2.1) ∧ (∃ J N, j = nI J ∧ n = nI N ∧ J + N ≤ (aS A l).2.2.1)
        · obtain ⟨⟨I, N, rfl, rfl, hI⟩, J, N', rfl, eN, hJ'⟩ := hg
          have eN' : N' = N := ((nI_eq (by omega) (by omega)).mp eN).symm
          subst eN'
          refine ⟨.int (nI N'), aSh A l (2, (aS A l).2.1, (aS A l).2.2.1, va_cpy (aS A k).2.2.2.1 (aS A l).2.2.2.1 I J N', (aS A l).2.2.2.2), hA.sh ⟨(by show 2 ≤ 2; decide), u2, u3, fun _ h0 q hq => ?_, fun z => (by cases z)⟩, ?_, ?_⟩
          · show -128 ≤ (va_cpy (aS A k).2.2.2.1 (aS A l).2.2.2.1 I J N' q).toInt ∧ (va_cpy (aS A k).2.2.2.1 (aS A l).2.2.2.1 I J N' q).toInt ≤ 127
            by_cases e : J ≤ q ∧ q < J + N'
            · rw [pk_cpy_in e.1 e.2]
              exact s4 hk2 (hso.trans h0) _ (by omega)
            · rw [pk_cpy_out (by omega)]
              exact u4 hl2 h0 q hq
          · intro s Q hJ hk
            obtain ⟨c1, c2, -⟩ := hJ.2.2.2.2 k hk8
            obtain ⟨d1, d2, -⟩ := hJ.2.2.2.2 l hl8
            obtain ⟨c3, c4, c5⟩ := c2 hk2
            obtain ⟨d3, d4, d5⟩ := d2 hl2
            refine qP.of (L := [_, _, _, _, _, _, _, _]) (by omega) (hP _ rfl) ms_Desk_copy rfl ?_
            show qW X PR (d - 1) (some .int) cd_Desk_copy 0 _ _ _ _
            refine qW.blk rfl ?_
            refine qv_aload rfl ?_
            refine qv_iload rfl ?_
            refine qv_virtE (ly_8.rcv _) sg_Desk_shelfAt rfl rfl (r_shelfAt_y hP (by omega) hk8) ?_
            refine qv_astore (L' := [_, _, _, _, _, _, _, _]) rfl ?_
            refine qv_aload rfl ?_
            refine qv_iload rfl ?_
            refine qv_virtE (ly_8.rcv _) sg_Desk_shelfAt rfl rfl (r_shelfAt_y hP (by omega) hl8) ?_
            refine qv_astore (L' := [_, _, _, _, _, _, _, _]) rfl ?_
            refine qv_aload rfl ?_
            refine qv_null_f (nx := 1) rfl ?_
            refine qW.blk rfl ?_
            refine qv_aload rfl ?_
            refine qv_nonnull_t (tgt := 3) rfl ?_
            refine qW.blk rfl ?_
            refine qv_aload rfl ?_
            refine qv_gi (ly_sh (d := k) (by omega)) ⟨rfl, rfl, rfl⟩ (c1) ?_
            refine qv_if_eqNf rfl (by omega) (by omega) (nx := 4) rfl ?_
            refine qW.blk rfl ?_
            refine qv_aload rfl ?_
            refine qv_gi (ly_sh (d := l) (by omega)) ⟨rfl, rfl, rfl⟩ (d1) ?_
            refine qv_if_neNt rfl (by omega) (by omega) (tgt := 6) rfl ?_
            refine qW.blk rfl ?_
            refine qv_aload rfl ?_
            refine qv_gi (ly_sh (d := k) (by omega)) ⟨rfl, rfl, rfl⟩ (c1) ?_
            refine qv_iconst (v := 2) rfl ?_
            refine qv_icmp_neNf (q := 2) rfl rfl (by omega) (by omega) (by omega) (nx := 7) rfl ?_
            refine qW.blk rfl ?_
            refine qv_aload rfl ?_
            refine qv_gi (ly_sh (d := l) (by omega)) ⟨rfl, rfl, rfl⟩ (d1) ?_
            refine qv_iconst (v := 2) rfl ?_
            refine qv_icmp_neNf (q := 2) rfl rfl (by omega) (by omega) (by omega) (nx := 8) rfl ?_
            refine qW.blk rfl ?_
            refine qv_aload rfl ?_
            refine qv_gi (ly_sh (d := k) (by omega)) ⟨rfl, rfl, rfl⟩ (c3) ?_
            refine qv_aload rfl ?_
            refine qv_gi (ly_sh (d := l) (by omega)) ⟨rfl, rfl, rfl⟩ (d3) ?_
            refine qv_icmp_eqNt rfl rfl (by omega) (by omega) (by omega) (tgt := 10) rfl ?_
            refine qW.blk rfl ?_
            refine qv_aload rfl ?_
            refine qv_iload rfl ?_
            refine qv_iload rfl ?_
            refine qv_virt ((ly_sh (d := k) (by omega)).rcv _) sg_Shelf_hasPlaces rfl rfl (w_hasPlaces_y hP (by omega) hk8 c4 s3 hI ?_) 
            refine qv_if_eq_f (by decide) (nx := 11) rfl ?_
            refine qW.blk rfl ?_
            refine qv_aload rfl ?_
            refine qv_iload rfl ?_
            refine qv_iload rfl ?_
            refine qv_virt ((ly_sh (d := l) (by omega)).rcv _) sg_Shelf_hasPlaces rfl rfl (w_hasPlaces_y hP (by omega) hl8 d4 u3 hJ' ?_) 
            refine qv_if_ne_t (by decide) (tgt := 13) rfl ?_
            refine qW.blk rfl ?_
            refine qv_aload rfl ?_
            refine qv_gr (ly_sh (d := k) (by omega)) ⟨rfl, rfl, rfl⟩ (by omega) ?_
            refine qv_iload rfl ?_
            refine qv_aload rfl ?_
            refine qv_gr (ly_sh (d := l) (by omega)) ⟨rfl, rfl, rfl⟩ (by omega) ?_
            refine qv_iload rfl ?_
            refine qv_iload rfl ?_
            refine qv_copy (ly_shc (d := k) (by omega)) (ly_shc (d := l) (by omega)) rfl rfl rfl (⟨by omega, by omega, by decide, by decide⟩) (Nat.le_of_ble_eq_true rfl) ?_
            refine qv_iload rfl ?_
            refine qv_iret (rfl) ?_
            have F : qfr (123 + 5 * l) (127 + 5 * l) s (uA s (123 + 5 * l + 4) (va_cpy (qE s (123 + 5 * k + 4)) (qE s (123 + 5 * l + 4)) I J N')) := (qfr.rf s).uA (by omega)
            refine hk _ (hJ.sh hA hl8 F ⟨?_, fun _ => ⟨d3, d4, fun q hq => ?_⟩, fun z => (by cases z)⟩) (F.c (by omega) (by omega))
            · show qF s (123 + 5 * l) 0 = nI 2
              rw [d1, hl2]
            · show _ = va_cpy (aS A k).2.2.2.1 (aS A l).2.2.2.1 I J N' q
              rw [qE_uAs]
              by_cases e : J ≤ q ∧ q < J + N'
              · rw [pk_cpy_in e.1 e.2, pk_cpy_in e.1 e.2]
                exact c5 _ (by omega)
              · rw [pk_cpy_out (by omega), pk_cpy_out (by omega)]
                exact d5 q hq
          · intro s Q hJ hk
            obtain ⟨c1, c2, -⟩ := hJ.2.2.2.2.1 k hk8
            obtain ⟨d1, d2, -⟩ := hJ.2.2.2.2.1 l hl8
            obtain ⟨c3, c4, c5⟩ := c2 hk2
            obtain ⟨d3, d4, d5⟩ := d2 hl2
            refine qP.of (L := [_, _, _, _, _, _, _]) (by omega) (hP _ rfl) ms_Model_copy rfl ?_
            show qW X PR (d - 1) (some .int) cd_Model_copy 0 _ _ _ _
            have loop2 : ∀ (p q : Nat) (t : QST), q + p = N' → rshf l s t → (∀ c, qE t c = qE s c) → (∀ r, r < N' → qL t 202 r = qL s 201 (120 * k + I + r)) → (∀ r, r < q → qL t 201 (120 * l + J + r) = qL s 201 (120 * k + I + r)) → (∀ r, (r < 120 * l + J ∨ 120 * l + J + q ≤ r) → qL t 201 r = qL s 201 r) → qW X PR (d - 1) (some .int) cd_Model_copy 20 [some (.ref (163)), some (.int (nI k)), some (.int (nI I)), some (.int (nI l)), some (.int (nI J)), some (.int (nI N')), some (.int (nI q))] [] t Q := by
              intro p
              induction p with
              | zero =>
                intro q t hq F1 g0 g1 g2 g3
                have e : q = N' := by omega
                subst e
                refine qW.blk rfl ?_
                refine qv_iload rfl ?_
                refine qv_iload rfl ?_
                refine qv_icmp_geNt rfl rfl (by omega) (by omega) (by omega) (tgt := 22) rfl ?_
                refine qW.blk rfl ?_
                refine qv_iload rfl ?_
                refine qv_iret (rfl) ?_
                refine hk _ (hJ.sh F1 ⟨?_, fun _ => ⟨?_, ?_, fun r hr => ?_⟩, fun z => (by cases z)⟩) F1.1
                · rw [g0, d1, hl2]
                · rw [g0]; exact d3
                · rw [g0]; exact d4
                · show _ = (va_cpy (aS A k).2.2.2.1 (aS A l).2.2.2.1 I J q r).toInt64
                  by_cases e : J ≤ r ∧ r < J + q
                  · rw [pk_cpy_in e.1 e.2, ← c5 _ (by omega)]
                    have := g2 (r - J) (by omega)
                    rw [show 120 * l + J + (r - J) = 120 * l + r by omega] at this
                    rw [this, Nat.add_assoc]
                  · rw [pk_cpy_out (by omega), ← d5 _ hr]
                    exact g3 _ (by omega)
              | succ p ih =>
                intro q t hq F1 g0 g1 g2 g3
                refine qW.blk rfl ?_
                refine qv_iload rfl ?_
                refine qv_iload rfl ?_
                refine qv_icmp_geNf rfl rfl (by omega) (by omega) (by omega) (nx := 21) rfl ?_
                refine qW.blk rfl ?_
                refine qv_aload rfl ?_
                refine qv_gr ly_163 ⟨rfl, rfl, rfl⟩ (by omega) ?_
                refine qv_iconst (v := 120) rfl ?_
                refine qv_iload rfl ?_
                refine qv_imulN (p := 120) rfl rfl ?_
                refine qv_iload rfl ?_
                refine qv_iaddN rfl rfl ?_
                refine qv_iload rfl ?_
                refine qv_iaddN rfl rfl ?_
                refine qv_aload rfl ?_
                refine qv_gr ly_163 ⟨rfl, rfl, rfl⟩ (by omega) ?_
                refine qv_iload rfl ?_
                refine qv_la ly_202 rfl (by omega) (by decide) (g1 q (by omega)) ?_
                refine qv_ls ly_201 rfl (by omega) (by decide) ?_
                refine qv_iinc (L' := [_, _, _, _, _, _, _]) rfl (nI_succ _).symm rfl ?_
                refine qv_goto (tgt := 20) rfl ?_
                refine ih (q + 1) _ (by omega) (F1.sL (by omega)) g0 (fun r hr => by rw [qL_uLc (by omega)]; exact g1 r hr) (fun r hr => ?_) (fun r hr => by rw [qL_uLk (by omega)]; exact g3 r (by omega))
                by_cases e : r = q
                · subst e; rw [qL_uLs]
                · rw [qL_uLk (by omega)]; exact g2 r (by omega)
            have loop1 : ∀ (p q : Nat) (t : QST), q + p = N' → rshf l s t → (∀ c, qE t c = qE s c) → qL t 201 = qL s 201 → (∀ r, r < q → qL t 202 r = qL s 201 (120 * k + I + r)) → qW X PR (d - 1) (some .int) cd_Model_copy 17 [some (.ref (163)), some (.int (nI k)), some (.int (nI I)), some (.int (nI l)), some (.int (nI J)), some (.int (nI N')), some (.int (nI q))] [] t Q := by
              intro p
              induction p with
              | zero =>
                intro q t hq F1 g0 g1 g2
                have e : q = N' := by omega
                subst e
                refine qW.blk rfl ?_
                refine qv_iload rfl ?_
                refine qv_iload rfl ?_
                refine qv_icmp_geNt rfl rfl (by omega) (by omega) (by omega) (tgt := 19) rfl ?_
                refine qW.blk rfl ?_
                refine qv_iconst (v := 0) rfl ?_
                refine qv_istore (L' := [_, _, _, _, _, _, _]) rfl ?_
                refine qv_nil (nx := 20) rfl ?_
                exact loop2 q 0 t (by omega) F1 g0 g2 (fun r hr => by omega) (fun r _ => by rw [g1])
              | succ p ih =>
                intro q t hq F1 g0 g1 g2
                refine qW.blk rfl ?_
                refine qv_iload rfl ?_
                refine qv_iload rfl ?_
                refine qv_icmp_geNf rfl rfl (by omega) (by omega) (by omega) (nx := 18) rfl ?_
                refine qW.blk rfl ?_
                refine qv_aload rfl ?_
                refine qv_gr ly_163 ⟨rfl, rfl, rfl⟩ (by omega) ?_
                refine qv_iload rfl ?_
                refine qv_aload rfl ?_
                refine qv_gr ly_163 ⟨rfl, rfl, rfl⟩ (by omega) ?_
                refine qv_iconst (v := 120) rfl ?_
                refine qv_iload rfl ?_
                refine qv_imulN (p := 120) rfl rfl ?_
                refine qv_iload rfl ?_
                refine qv_iaddN rfl rfl ?_
                refine qv_iload rfl ?_
                refine qv_iaddN rfl rfl ?_
                refine qv_la ly_201 rfl (by omega) (by decide) (congrFun g1 (120 * k + I + q)) ?_
                refine qv_ls ly_202 rfl (by omega) (by decide) ?_
                refine qv_iinc (L' := [_, _, _, _, _, _, _]) rfl (nI_succ _).symm rfl ?_
                refine qv_goto (tgt := 17) rfl ?_
                refine ih (q + 1) _ (by omega) F1.sB g0 ((qL_uLc (by omega)).trans g1) (fun r hr => ?_)
                by_cases e : r = q
                · subst e; rw [qL_uLs]
                · rw [qL_uLk (by omega)]; exact g2 r (by omega)
            refine qW.blk rfl ?_
            refine qv_aload rfl ?_
            refine qv_iconst (v := 0) rfl ?_
            refine qv_pi ly_163 ⟨rfl, rfl, rfl⟩ (rfl) ?_
            refine qv_iload rfl ?_
            refine qv_iconst (v := 0) rfl ?_
            refine qv_iconst (v := 7) rfl ?_
            refine qv_staticE sg_Model_in rfl (r_Model_in hP (by omega) (nI k) (nI 0) (nI 7) _) ?_
            refine qv_if_eq_f (bI_ne.mpr (nI7in hk8)) (nx := 1) rfl ?_
            refine qW.blk rfl ?_
            refine qv_iload rfl ?_
            refine qv_iconst (v := 0) rfl ?_
            refine qv_iconst (v := 7) rfl ?_
            refine qv_staticE sg_Model_in rfl (r_Model_in hP (by omega) (nI l) (nI 0) (nI 7) _) ?_
            refine qv_if_ne_t (bI_ne.mpr (nI7in hl8)) (tgt := 3) rfl ?_
            refine qW.blk rfl ?_
            refine qv_aload rfl ?_
            refine qv_gr ly_163 ⟨rfl, rfl, rfl⟩ (by omega) ?_
            refine qv_iload rfl ?_
            refine qv_ia ly_196 rfl (by omega) (by decide) (c1) ?_
            refine qv_if_eqNf rfl (by omega) (by omega) (nx := 4) rfl ?_
            refine qW.blk rfl ?_
            refine qv_aload rfl ?_
            refine qv_gr ly_163 ⟨rfl, rfl, rfl⟩ (by omega) ?_
            refine qv_iload rfl ?_
            refine qv_ia ly_196 rfl (by omega) (by decide) (d1) ?_
            refine qv_if_neNt rfl (by omega) (by omega) (tgt := 6) rfl ?_
            refine qW.blk rfl ?_
            refine qv_aload rfl ?_
            refine qv_gr ly_163 ⟨rfl, rfl, rfl⟩ (by omega) ?_
            refine qv_iload rfl ?_
            refine qv_ia ly_196 rfl (by omega) (by decide) (c1) ?_
            refine qv_iconst (v := 2) rfl ?_
            refine qv_icmp_neNf (q := 2) rfl rfl (by omega) (by omega) (by omega) (nx := 7) rfl ?_
            refine qW.blk rfl ?_
            refine qv_aload rfl ?_
            refine qv_gr ly_163 ⟨rfl, rfl, rfl⟩ (by omega) ?_
            refine qv_iload rfl ?_
            refine qv_ia ly_196 rfl (by omega) (by decide) (d1) ?_
            refine qv_iconst (v := 2) rfl ?_
            refine qv_icmp_neNf (q := 2) rfl rfl (by omega) (by omega) (by omega) (nx := 8) rfl ?_
            refine qW.blk rfl ?_
            refine qv_aload rfl ?_
            refine qv_gr ly_163 ⟨rfl, rfl, rfl⟩ (by omega) ?_
            refine qv_iload rfl ?_
            refine qv_ia ly_199 rfl (by omega) (by decide) (c3) ?_
            refine qv_aload rfl ?_
            refine qv_gr ly_163 ⟨rfl, rfl, rfl⟩ (by omega) ?_
            refine qv_iload rfl ?_
            refine qv_ia ly_199 rfl (by omega) (by decide) (d3) ?_
            refine qv_icmp_eqNt rfl rfl (by omega) (by omega) (by omega) (tgt := 10) rfl ?_
            refine qW.blk rfl ?_
            refine qv_iload rfl ?_
            refine qv_if_ltNf rfl (by omega) (by omega) (nx := 11) rfl ?_
            refine qW.blk rfl ?_
            refine qv_iload rfl ?_
            refine qv_if_ltNf rfl (by omega) (by omega) (nx := 12) rfl ?_
            refine qW.blk rfl ?_
            refine qv_iload rfl ?_
            refine qv_if_ltNf rfl (by omega) (by omega) (nx := 13) rfl ?_
            refine qW.blk rfl ?_
            refine qv_iload rfl ?_
            refine qv_aload rfl ?_
            refine qv_gr ly_163 ⟨rfl, rfl, rfl⟩ (by omega) ?_
            refine qv_iload rfl ?_
            refine qv_ia ly_200 rfl (by omega) (by decide) (c4) ?_
            refine qv_iload rfl ?_
            refine qv_isub ?_
            refine qv_icmp_gt_f (fun z => by have := (sub_lt (by omega) (by omega) (by omega)).mp z; omega) (nx := 14) rfl ?_
            refine qW.blk rfl ?_
            refine qv_iload rfl ?_
            refine qv_aload rfl ?_
            refine qv_gr ly_163 ⟨rfl, rfl, rfl⟩ (by omega) ?_
            refine qv_iload rfl ?_
            refine qv_ia ly_200 rfl (by omega) (by decide) (d4) ?_
            refine qv_iload rfl ?_
            refine qv_isub ?_
            refine qv_icmp_le_t (Int32.not_lt.mp (fun z => by have := (sub_lt (by omega) (by omega) (by omega)).mp z; omega)) (tgt := 16) rfl ?_
            refine qW.blk rfl ?_
            refine qv_iconst (v := 0) rfl ?_
            refine qv_istore (L' := [_, _, _, _, _, _, _]) rfl ?_
            refine qv_nil (nx := 17) rfl ?_
            exact loop1 N' 0 _ (by omega) (rshf.rf l s).thr (fun _ => rfl) rfl (fun r hr => by omega)
        · refine ⟨.int (-13), A, hA, ?_, ?_⟩
          · intro s Q hJ hk
            obtain ⟨c1, c2, -⟩ := hJ.2.2.2.2 k hk8
            obtain ⟨d1, d2, -⟩ := hJ.2.2.2.2 l hl8
            obtain ⟨c3, c4, c5⟩ := c2 hk2
            obtain ⟨d3, d4, d5⟩ := d2 hl2
            refine qP.of (L := [_, _, _, _, _, _, _, _]) (by omega) (hP _ rfl) ms_Desk_copy rfl ?_
            show qW X PR (d - 1) (some .int) cd_Desk_copy 0 _ _ _ _
            refine qW.blk rfl ?_
            refine qv_aload rfl ?_
            refine qv_iload rfl ?_
            refine qv_virtE (ly_8.rcv _) sg_Desk_shelfAt rfl rfl (r_shelfAt_y hP (by omega) hk8) ?_
            refine qv_astore (L' := [_, _, _, _, _, _, _, _]) rfl ?_
            refine qv_aload rfl ?_
            refine qv_iload rfl ?_
            refine qv_virtE (ly_8.rcv _) sg_Desk_shelfAt rfl rfl (r_shelfAt_y hP (by omega) hl8) ?_
            refine qv_astore (L' := [_, _, _, _, _, _, _, _]) rfl ?_
            refine qv_aload rfl ?_
            refine qv_null_f (nx := 1) rfl ?_
            refine qW.blk rfl ?_
            refine qv_aload rfl ?_
            refine qv_nonnull_t (tgt := 3) rfl ?_
            refine qW.blk rfl ?_
            refine qv_aload rfl ?_
            refine qv_gi (ly_sh (d := k) (by omega)) ⟨rfl, rfl, rfl⟩ (c1) ?_
            refine qv_if_eqNf rfl (by omega) (by omega) (nx := 4) rfl ?_
            refine qW.blk rfl ?_
            refine qv_aload rfl ?_
            refine qv_gi (ly_sh (d := l) (by omega)) ⟨rfl, rfl, rfl⟩ (d1) ?_
            refine qv_if_neNt rfl (by omega) (by omega) (tgt := 6) rfl ?_
            refine qW.blk rfl ?_
            refine qv_aload rfl ?_
            refine qv_gi (ly_sh (d := k) (by omega)) ⟨rfl, rfl, rfl⟩ (c1) ?_
            refine qv_iconst (v := 2) rfl ?_
            refine qv_icmp_neNf (q := 2) rfl rfl (by omega) (by omega) (by omega) (nx := 7) rfl ?_
            refine qW.blk rfl ?_
            refine qv_aload rfl ?_
            refine qv_gi (ly_sh (d := l) (by omega)) ⟨rfl, rfl, rfl⟩ (d1) ?_
            refine qv_iconst (v := 2) rfl ?_
            refine qv_icmp_neNf (q := 2) rfl rfl (by omega) (by omega) (by omega) (nx := 8) rfl ?_
            refine qW.blk rfl ?_
            refine qv_aload rfl ?_
            refine qv_gi (ly_sh (d := k) (by omega)) ⟨rfl, rfl, rfl⟩ (c3) ?_
            refine qv_aload rfl ?_
            refine qv_gi (ly_sh (d := l) (by omega)) ⟨rfl, rfl, rfl⟩ (d3) ?_
            refine qv_icmp_eqNt rfl rfl (by omega) (by omega) (by omega) (tgt := 10) rfl ?_
            by_cases e1 : ∃ I N, i = nI I ∧ n = nI N ∧ I + N ≤ (aS A k).2.2.1
            · have e2 : ¬ ∃ J N, j = nI J ∧ n = nI N ∧ J + N ≤ (aS A l).2.2.1 := fun z => hg ⟨e1, z⟩
              obtain ⟨I, N, rfl, rfl, hI⟩ := e1
              refine qW.blk rfl ?_
              refine qv_aload rfl ?_
              refine qv_iload rfl ?_
              refine qv_iload rfl ?_
              refine qv_virt ((ly_sh (d := k) (by omega)).rcv _) sg_Shelf_hasPlaces rfl rfl (w_hasPlaces_y hP (by omega) hk8 c4 s3 hI ?_) 
              refine qv_if_eq_f (by decide) (nx := 11) rfl ?_
              refine qW.blk rfl ?_
              refine qv_aload rfl ?_
              refine qv_iload rfl ?_
              refine qv_iload rfl ?_
              refine qv_virt ((ly_sh (d := l) (by omega)).rcv _) sg_Shelf_hasPlaces rfl rfl (w_hasPlaces_n hP (by omega) hl8 d4 u3 e2 ?_) 
              refine qv_if_ne_f (fun z => z rfl) (nx := 12) rfl ?_
              refine qW.blk rfl ?_
              refine qv_iconst (v := (-13)) rfl ?_
              refine qv_iret (rfl) ?_
              exact hk s hJ (cfr.rf s)
            · refine qW.blk rfl ?_
              refine qv_aload rfl ?_
              refine qv_iload rfl ?_
              refine qv_iload rfl ?_
              refine qv_virt ((ly_sh (d := k) (by omega)).rcv _) sg_Shelf_hasPlaces rfl rfl (w_hasPlaces_n hP (by omega) hk8 c4 s3 e1 ?_) 
              refine qv_if_eq_t (rfl) (tgt := 12) rfl ?_
              refine qW.blk rfl ?_
              refine qv_iconst (v := (-13)) rfl ?_
              refine qv_iret (rfl) ?_
              exact hk s hJ (cfr.rf s)
          · intro s Q hJ hk
            obtain ⟨c1, c2, -⟩ := hJ.2.2.2.2.1 k hk8
            obtain ⟨d1, d2, -⟩ := hJ.2.2.2.2.1 l hl8
            obtain ⟨c3, c4, c5⟩ := c2 hk2
            obtain ⟨d3, d4, d5⟩ := d2 hl2
            have fin := hk (uF s 163 0 0) hJ.thr ((qfr.rf s).uF (by omega))
            refine qP.of (L := [_, _, _, _, _, _, _]) (by omega) (hP _ rfl) ms_Model_copy rfl ?_
            show qW X PR (d - 1) (some .int) cd_Model_copy 0 _ _ _ _
            refine qW.blk rfl ?_
            refine qv_aload rfl ?_
            refine qv_iconst (v := 0) rfl ?_
            refine qv_pi ly_163 ⟨rfl, rfl, rfl⟩ (rfl) ?_
            refine qv_iload rfl ?_
            refine qv_iconst (v := 0) rfl ?_
            refine qv_iconst (v := 7) rfl ?_
            refine qv_staticE sg_Model_in rfl (r_Model_in hP (by omega) (nI k) (nI 0) (nI 7) _) ?_
            refine qv_if_eq_f (bI_ne.mpr (nI7in hk8)) (nx := 1) rfl ?_
            refine qW.blk rfl ?_
            refine qv_iload rfl ?_
            refine qv_iconst (v := 0) rfl ?_
            refine qv_iconst (v := 7) rfl ?_
            refine qv_staticE sg_Model_in rfl (r_Model_in hP (by omega) (nI l) (nI 0) (nI 7) _) ?_
            refine qv_if_ne_t (bI_ne.mpr (nI7in hl8)) (tgt := 3) rfl ?_
            refine qW.blk rfl ?_
            refine qv_aload rfl ?_
            refine qv_gr ly_163 ⟨rfl, rfl, rfl⟩ (by omega) ?_
            refine qv_iload rfl ?_
            refine qv_ia ly_196 rfl (by omega) (by decide) (c1) ?_
            refine qv_if_eqNf rfl (by omega) (by omega) (nx := 4) rfl ?_
            refine qW.blk rfl ?_
            refine qv_aload rfl ?_
            refine qv_gr ly_163 ⟨rfl, rfl, rfl⟩ (by omega) ?_
            refine qv_iload rfl ?_
            refine qv_ia ly_196 rfl (by omega) (by decide) (d1) ?_
            refine qv_if_neNt rfl (by omega) (by omega) (tgt := 6) rfl ?_
            refine qW.blk rfl ?_
            refine qv_aload rfl ?_
            refine qv_gr ly_163 ⟨rfl, rfl, rfl⟩ (by omega) ?_
            refine qv_iload rfl ?_
            refine qv_ia ly_196 rfl (by omega) (by decide) (c1) ?_
            refine qv_iconst (v := 2) rfl ?_
            refine qv_icmp_neNf (q := 2) rfl rfl (by omega) (by omega) (by omega) (nx := 7) rfl ?_
            refine qW.blk rfl ?_
            refine qv_aload rfl ?_
            refine qv_gr ly_163 ⟨rfl, rfl, rfl⟩ (by omega) ?_
            refine qv_iload rfl ?_
            refine qv_ia ly_196 rfl (by omega) (by decide) (d1) ?_
            refine qv_iconst (v := 2) rfl ?_
            refine qv_icmp_neNf (q := 2) rfl rfl (by omega) (by omega) (by omega) (nx := 8) rfl ?_
            refine qW.blk rfl ?_
            refine qv_aload rfl ?_
            refine qv_gr ly_163 ⟨rfl, rfl, rfl⟩ (by omega) ?_
            refine qv_iload rfl ?_
            refine qv_ia ly_199 rfl (by omega) (by decide) (c3) ?_
            refine qv_aload rfl ?_
            refine qv_gr ly_163 ⟨rfl, rfl, rfl⟩ (by omega) ?_
            refine qv_iload rfl ?_
            refine qv_ia ly_199 rfl (by omega) (by decide) (d3) ?_
            refine qv_icmp_eqNt rfl rfl (by omega) (by omega) (by omega) (tgt := 10) rfl ?_
            by_cases x1 : n < 0
            · refine qW.blk rfl ?_
              refine qv_iload rfl ?_
              refine qv_if_lt_t (x1) (tgt := 15) rfl ?_
              refine qW.blk rfl ?_
              refine qv_iconst (v := (-13)) rfl ?_
              refine qv_iret (rfl) ?_
              exact fin
            by_cases x2 : i < 0
            · refine qW.blk rfl ?_
              refine qv_iload rfl ?_
              refine qv_if_lt_f (x1) (nx := 11) rfl ?_
              refine qW.blk rfl ?_
              refine qv_iload rfl ?_
              refine qv_if_lt_t (x2) (tgt := 15) rfl ?_
              refine qW.blk rfl ?_
              refine qv_iconst (v := (-13)) rfl ?_
              refine qv_iret (rfl) ?_
              exact fin
            by_cases x3 : j < 0
            · refine qW.blk rfl ?_
              refine qv_iload rfl ?_
              refine qv_if_lt_f (x1) (nx := 11) rfl ?_
              refine qW.blk rfl ?_
              refine qv_iload rfl ?_
              refine qv_if_lt_f (x2) (nx := 12) rfl ?_
              refine qW.blk rfl ?_
              refine qv_iload rfl ?_
              refine qv_if_lt_t (x3) (tgt := 15) rfl ?_
              refine qW.blk rfl ?_
              refine qv_iconst (v := (-13)) rfl ?_
              refine qv_iret (rfl) ?_
              exact fin
            obtain ⟨N, n1, rfl⟩ := nI_of x1
            obtain ⟨I, i1, rfl⟩ := nI_of x2
            obtain ⟨J, j1, rfl⟩ := nI_of x3
            have b10 : qW X PR (d - 1) (some .int) cd_Model_copy 10 [some (.ref (163)), some (.int (nI k)), some (.int (nI I)), some (.int (nI l)), some (.int (nI J)), some (.int (nI N)), none] [] (uF s 163 0 0) Q := by
              by_cases y1 : (aS A k).2.2.1 < I + N
              · refine qW.blk rfl ?_
                refine qv_iload rfl ?_
                refine qv_if_ltNf rfl (by omega) (by omega) (nx := 11) rfl ?_
                refine qW.blk rfl ?_
                refine qv_iload rfl ?_
                refine qv_if_ltNf rfl (by omega) (by omega) (nx := 12) rfl ?_
                refine qW.blk rfl ?_
                refine qv_iload rfl ?_
                refine qv_if_ltNf rfl (by omega) (by omega) (nx := 13) rfl ?_
                refine qW.blk rfl ?_
                refine qv_iload rfl ?_
                refine qv_aload rfl ?_
                refine qv_gr ly_163 ⟨rfl, rfl, rfl⟩ (by omega) ?_
                refine qv_iload rfl ?_
                refine qv_ia ly_200 rfl (by omega) (by decide) (c4) ?_
                refine qv_iload rfl ?_
                refine qv_isub ?_
                refine qv_icmp_gt_t ((sub_lt (by omega) (by omega) (by omega)).mpr y1) (tgt := 15) rfl ?_
                refine qW.blk rfl ?_
                refine qv_iconst (v := (-13)) rfl ?_
                refine qv_iret (rfl) ?_
                exact fin
              · have y2 : (aS A l).2.2.1 < J + N := by
                  rcases Nat.lt_or_ge (aS A l).2.2.1 (J + N) with h | h
                  · exact h
                  · exact absurd ⟨⟨I, N, rfl, rfl, by omega⟩, J, N, rfl, rfl, h⟩ hg
                refine qW.blk rfl ?_
                refine qv_iload rfl ?_
                refine qv_if_ltNf rfl (by omega) (by omega) (nx := 11) rfl ?_
                refine qW.blk rfl ?_
                refine qv_iload rfl ?_
                refine qv_if_ltNf rfl (by omega) (by omega) (nx := 12) rfl ?_
                refine qW.blk rfl ?_
                refine qv_iload rfl ?_
                refine qv_if_ltNf rfl (by omega) (by omega) (nx := 13) rfl ?_
                refine qW.blk rfl ?_
                refine qv_iload rfl ?_
                refine qv_aload rfl ?_
                refine qv_gr ly_163 ⟨rfl, rfl, rfl⟩ (by omega) ?_
                refine qv_iload rfl ?_
                refine qv_ia ly_200 rfl (by omega) (by decide) (c4) ?_
                refine qv_iload rfl ?_
                refine qv_isub ?_
                refine qv_icmp_gt_f (fun z => y1 ((sub_lt (by omega) (by omega) (by omega)).mp z)) (nx := 14) rfl ?_
                refine qW.blk rfl ?_
                refine qv_iload rfl ?_
                refine qv_aload rfl ?_
                refine qv_gr ly_163 ⟨rfl, rfl, rfl⟩ (by omega) ?_
                refine qv_iload rfl ?_
                refine qv_ia ly_200 rfl (by omega) (by decide) (d4) ?_
                refine qv_iload rfl ?_
                refine qv_isub ?_
                refine qv_icmp_le_f (Int32.not_le.mpr ((sub_lt (by omega) (by omega) (by omega)).mpr y2)) (nx := 15) rfl ?_
                refine qW.blk rfl ?_
                refine qv_iconst (v := (-13)) rfl ?_
                refine qv_iret (rfl) ?_
                exact fin
            exact b10
      · refine ⟨.int (-12), A, hA, ?_, ?_⟩
        · intro s Q hJ hk
          obtain ⟨c1, c2, -⟩ := hJ.2.2.2.2 k hk8
          obtain ⟨d1, d2, -⟩ := hJ.2.2.2.2 l hl8
          have fin := hk s hJ (cfr.rf s)
          refine qP.of (L := [_, _, _, _, _, _, _, _]) (by omega) (hP _ rfl) ms_Desk_copy rfl ?_
          show qW X PR (d - 1) (some .int) cd_Desk_copy 0 _ _ _ _
          by_cases e1 : (aS A k).1 = 2
          · by_cases e2 : (aS A l).1 = 2
            · refine qW.blk rfl ?_
              refine qv_aload rfl ?_
              refine qv_iload rfl ?_
              refine qv_virtE (ly_8.rcv _) sg_Desk_shelfAt rfl rfl (r_shelfAt_y hP (by omega) hk8) ?_
              refine qv_astore (L' := [_, _, _, _, _, _, _, _]) rfl ?_
              refine qv_aload rfl ?_
              refine qv_iload rfl ?_
              refine qv_virtE (ly_8.rcv _) sg_Desk_shelfAt rfl rfl (r_shelfAt_y hP (by omega) hl8) ?_
              refine qv_astore (L' := [_, _, _, _, _, _, _, _]) rfl ?_
              refine qv_aload rfl ?_
              refine qv_null_f (nx := 1) rfl ?_
              refine qW.blk rfl ?_
              refine qv_aload rfl ?_
              refine qv_nonnull_t (tgt := 3) rfl ?_
              refine qW.blk rfl ?_
              refine qv_aload rfl ?_
              refine qv_gi (ly_sh (d := k) (by omega)) ⟨rfl, rfl, rfl⟩ (c1) ?_
              refine qv_if_eqNf rfl (by omega) (by omega) (nx := 4) rfl ?_
              refine qW.blk rfl ?_
              refine qv_aload rfl ?_
              refine qv_gi (ly_sh (d := l) (by omega)) ⟨rfl, rfl, rfl⟩ (d1) ?_
              refine qv_if_neNt rfl (by omega) (by omega) (tgt := 6) rfl ?_
              refine qW.blk rfl ?_
              refine qv_aload rfl ?_
              refine qv_gi (ly_sh (d := k) (by omega)) ⟨rfl, rfl, rfl⟩ (c1) ?_
              refine qv_iconst (v := 2) rfl ?_
              refine qv_icmp_neNf (q := 2) rfl rfl (by omega) (by omega) (by omega) (nx := 7) rfl ?_
              refine qW.blk rfl ?_
              refine qv_aload rfl ?_
              refine qv_gi (ly_sh (d := l) (by omega)) ⟨rfl, rfl, rfl⟩ (d1) ?_
              refine qv_iconst (v := 2) rfl ?_
              refine qv_icmp_neNf (q := 2) rfl rfl (by omega) (by omega) (by omega) (nx := 8) rfl ?_
              refine qW.blk rfl ?_
              refine qv_aload rfl ?_
              refine qv_gi (ly_sh (d := k) (by omega)) ⟨rfl, rfl, rfl⟩ ((c2 e1).1) ?_
              refine qv_aload rfl ?_
              refine qv_gi (ly_sh (d := l) (by omega)) ⟨rfl, rfl, rfl⟩ ((d2 e2).1) ?_
              refine qv_icmp_eqNf rfl rfl (by omega) (by omega) (by omega) (nx := 9) rfl ?_
              refine qW.blk rfl ?_
              refine qv_iconst (v := (-12)) rfl ?_
              refine qv_iret (rfl) ?_
              exact fin
            · refine qW.blk rfl ?_
              refine qv_aload rfl ?_
              refine qv_iload rfl ?_
              refine qv_virtE (ly_8.rcv _) sg_Desk_shelfAt rfl rfl (r_shelfAt_y hP (by omega) hk8) ?_
              refine qv_astore (L' := [_, _, _, _, _, _, _, _]) rfl ?_
              refine qv_aload rfl ?_
              refine qv_iload rfl ?_
              refine qv_virtE (ly_8.rcv _) sg_Desk_shelfAt rfl rfl (r_shelfAt_y hP (by omega) hl8) ?_
              refine qv_astore (L' := [_, _, _, _, _, _, _, _]) rfl ?_
              refine qv_aload rfl ?_
              refine qv_null_f (nx := 1) rfl ?_
              refine qW.blk rfl ?_
              refine qv_aload rfl ?_
              refine qv_nonnull_t (tgt := 3) rfl ?_
              refine qW.blk rfl ?_
              refine qv_aload rfl ?_
              refine qv_gi (ly_sh (d := k) (by omega)) ⟨rfl, rfl, rfl⟩ (c1) ?_
              refine qv_if_eqNf rfl (by omega) (by omega) (nx := 4) rfl ?_
              refine qW.blk rfl ?_
              refine qv_aload rfl ?_
              refine qv_gi (ly_sh (d := l) (by omega)) ⟨rfl, rfl, rfl⟩ (d1) ?_
              refine qv_if_neNt rfl (by omega) (by omega) (tgt := 6) rfl ?_
              refine qW.blk rfl ?_
              refine qv_aload rfl ?_
              refine qv_gi (ly_sh (d := k) (by omega)) ⟨rfl, rfl, rfl⟩ (c1) ?_
              refine qv_iconst (v := 2) rfl ?_
              refine qv_icmp_neNf (q := 2) rfl rfl (by omega) (by omega) (by omega) (nx := 7) rfl ?_
              refine qW.blk rfl ?_
              refine qv_aload rfl ?_
              refine qv_gi (ly_sh (d := l) (by omega)) ⟨rfl, rfl, rfl⟩ (d1) ?_
              refine qv_iconst (v := 2) rfl ?_
              refine qv_icmp_neNt (q := 2) rfl rfl (by omega) (by omega) (by omega) (tgt := 9) rfl ?_
              refine qW.blk rfl ?_
              refine qv_iconst (v := (-12)) rfl ?_
              refine qv_iret (rfl) ?_
              exact fin
          · refine qW.blk rfl ?_
            refine qv_aload rfl ?_
            refine qv_iload rfl ?_
            refine qv_virtE (ly_8.rcv _) sg_Desk_shelfAt rfl rfl (r_shelfAt_y hP (by omega) hk8) ?_
            refine qv_astore (L' := [_, _, _, _, _, _, _, _]) rfl ?_
            refine qv_aload rfl ?_
            refine qv_iload rfl ?_
            refine qv_virtE (ly_8.rcv _) sg_Desk_shelfAt rfl rfl (r_shelfAt_y hP (by omega) hl8) ?_
            refine qv_astore (L' := [_, _, _, _, _, _, _, _]) rfl ?_
            refine qv_aload rfl ?_
            refine qv_null_f (nx := 1) rfl ?_
            refine qW.blk rfl ?_
            refine qv_aload rfl ?_
            refine qv_nonnull_t (tgt := 3) rfl ?_
            refine qW.blk rfl ?_
            refine qv_aload rfl ?_
            refine qv_gi (ly_sh (d := k) (by omega)) ⟨rfl, rfl, rfl⟩ (c1) ?_
            refine qv_if_eqNf rfl (by omega) (by omega) (nx := 4) rfl ?_
            refine qW.blk rfl ?_
            refine qv_aload rfl ?_
            refine qv_gi (ly_sh (d := l) (by omega)) ⟨rfl, rfl, rfl⟩ (d1) ?_
            refine qv_if_neNt rfl (by omega) (by omega) (tgt := 6) rfl ?_
            refine qW.blk rfl ?_
            refine qv_aload rfl ?_
            refine qv_gi (ly_sh (d := k) (by omega)) ⟨rfl, rfl, rfl⟩ (c1) ?_
            refine qv_iconst (v := 2) rfl ?_
            refine qv_icmp_neNt (q := 2) rfl rfl (by omega) (by omega) (by omega) (tgt := 9) rfl ?_
            refine qW.blk rfl ?_
            refine qv_iconst (v := (-12)) rfl ?_
            refine qv_iret (rfl) ?_
            exact fin
        · intro s Q hJ hk
          obtain ⟨c1, c2, -⟩ := hJ.2.2.2.2.1 k hk8
          obtain ⟨d1, d2, -⟩ := hJ.2.2.2.2.1 l hl8
          have fin := hk (uF s 163 0 0) hJ.thr ((qfr.rf s).uF (by omega))
          refine qP.of (L := [_, _, _, _, _, _, _]) (by omega) (hP _ rfl) ms_Model_copy rfl ?_
          show qW X PR (d - 1) (some .int) cd_Model_copy 0 _ _ _ _
          by_cases e1 : (aS A k).1 = 2
          · by_cases e2 : (aS A l).1 = 2
            · refine qW.blk rfl ?_
              refine qv_aload rfl ?_
              refine qv_iconst (v := 0) rfl ?_
              refine qv_pi ly_163 ⟨rfl, rfl, rfl⟩ (rfl) ?_
              refine qv_iload rfl ?_
              refine qv_iconst (v := 0) rfl ?_
              refine qv_iconst (v := 7) rfl ?_
              refine qv_staticE sg_Model_in rfl (r_Model_in hP (by omega) (nI k) (nI 0) (nI 7) _) ?_
              refine qv_if_eq_f (bI_ne.mpr (nI7in hk8)) (nx := 1) rfl ?_
              refine qW.blk rfl ?_
              refine qv_iload rfl ?_
              refine qv_iconst (v := 0) rfl ?_
              refine qv_iconst (v := 7) rfl ?_
              refine qv_staticE sg_Model_in rfl (r_Model_in hP (by omega) (nI l) (nI 0) (nI 7) _) ?_
              refine qv_if_ne_t (bI_ne.mpr (nI7in hl8)) (tgt := 3) rfl ?_
              refine qW.blk rfl ?_
              refine qv_aload rfl ?_
              refine qv_gr ly_163 ⟨rfl, rfl, rfl⟩ (by omega) ?_
              refine qv_iload rfl ?_
              refine qv_ia ly_196 rfl (by omega) (by decide) (c1) ?_
              refine qv_if_eqNf rfl (by omega) (by omega) (nx := 4) rfl ?_
              refine qW.blk rfl ?_
              refine qv_aload rfl ?_
              refine qv_gr ly_163 ⟨rfl, rfl, rfl⟩ (by omega) ?_
              refine qv_iload rfl ?_
              refine qv_ia ly_196 rfl (by omega) (by decide) (d1) ?_
              refine qv_if_neNt rfl (by omega) (by omega) (tgt := 6) rfl ?_
              refine qW.blk rfl ?_
              refine qv_aload rfl ?_
              refine qv_gr ly_163 ⟨rfl, rfl, rfl⟩ (by omega) ?_
              refine qv_iload rfl ?_
              refine qv_ia ly_196 rfl (by omega) (by decide) (c1) ?_
              refine qv_iconst (v := 2) rfl ?_
              refine qv_icmp_neNf (q := 2) rfl rfl (by omega) (by omega) (by omega) (nx := 7) rfl ?_
              refine qW.blk rfl ?_
              refine qv_aload rfl ?_
              refine qv_gr ly_163 ⟨rfl, rfl, rfl⟩ (by omega) ?_
              refine qv_iload rfl ?_
              refine qv_ia ly_196 rfl (by omega) (by decide) (d1) ?_
              refine qv_iconst (v := 2) rfl ?_
              refine qv_icmp_neNf (q := 2) rfl rfl (by omega) (by omega) (by omega) (nx := 8) rfl ?_
              refine qW.blk rfl ?_
              refine qv_aload rfl ?_
              refine qv_gr ly_163 ⟨rfl, rfl, rfl⟩ (by omega) ?_
              refine qv_iload rfl ?_
              refine qv_ia ly_199 rfl (by omega) (by decide) ((c2 e1).1) ?_
              refine qv_aload rfl ?_
              refine qv_gr ly_163 ⟨rfl, rfl, rfl⟩ (by omega) ?_
              refine qv_iload rfl ?_
              refine qv_ia ly_199 rfl (by omega) (by decide) ((d2 e2).1) ?_
              refine qv_icmp_eqNf rfl rfl (by omega) (by omega) (by omega) (nx := 9) rfl ?_
              refine qW.blk rfl ?_
              refine qv_iconst (v := (-12)) rfl ?_
              refine qv_iret (rfl) ?_
              exact fin
            · refine qW.blk rfl ?_
              refine qv_aload rfl ?_
              refine qv_iconst (v := 0) rfl ?_
              refine qv_pi ly_163 ⟨rfl, rfl, rfl⟩ (rfl) ?_
              refine qv_iload rfl ?_
              refine qv_iconst (v := 0) rfl ?_
              refine qv_iconst (v := 7) rfl ?_
              refine qv_staticE sg_Model_in rfl (r_Model_in hP (by omega) (nI k) (nI 0) (nI 7) _) ?_
              refine qv_if_eq_f (bI_ne.mpr (nI7in hk8)) (nx := 1) rfl ?_
              refine qW.blk rfl ?_
              refine qv_iload rfl ?_
              refine qv_iconst (v := 0) rfl ?_
              refine qv_iconst (v := 7) rfl ?_
              refine qv_staticE sg_Model_in rfl (r_Model_in hP (by omega) (nI l) (nI 0) (nI 7) _) ?_
              refine qv_if_ne_t (bI_ne.mpr (nI7in hl8)) (tgt := 3) rfl ?_
              refine qW.blk rfl ?_
              refine qv_aload rfl ?_
              refine qv_gr ly_163 ⟨rfl, rfl, rfl⟩ (by omega) ?_
              refine qv_iload rfl ?_
              refine qv_ia ly_196 rfl (by omega) (by decide) (c1) ?_
              refine qv_if_eqNf rfl (by omega) (by omega) (nx := 4) rfl ?_
              refine qW.blk rfl ?_
              refine qv_aload rfl ?_
              refine qv_gr ly_163 ⟨rfl, rfl, rfl⟩ (by omega) ?_
              refine qv_iload rfl ?_
              refine qv_ia ly_196 rfl (by omega) (by decide) (d1) ?_
              refine qv_if_neNt rfl (by omega) (by omega) (tgt := 6) rfl ?_
              refine qW.blk rfl ?_
              refine qv_aload rfl ?_
              refine qv_gr ly_163 ⟨rfl, rfl, rfl⟩ (by omega) ?_
              refine qv_iload rfl ?_
              refine qv_ia ly_196 rfl (by omega) (by decide) (c1) ?_
              refine qv_iconst (v := 2) rfl ?_
              refine qv_icmp_neNf (q := 2) rfl rfl (by omega) (by omega) (by omega) (nx := 7) rfl ?_
              refine qW.blk rfl ?_
              refine qv_aload rfl ?_
              refine qv_gr ly_163 ⟨rfl, rfl, rfl⟩ (by omega) ?_
              refine qv_iload rfl ?_
              refine qv_ia ly_196 rfl (by omega) (by decide) (d1) ?_
              refine qv_iconst (v := 2) rfl ?_
              refine qv_icmp_neNt (q := 2) rfl rfl (by omega) (by omega) (by omega) (tgt := 9) rfl ?_
              refine qW.blk rfl ?_
              refine qv_iconst (v := (-12)) rfl ?_
              refine qv_iret (rfl) ?_
              exact fin
          · refine qW.blk rfl ?_
            refine qv_aload rfl ?_
            refine qv_iconst (v := 0) rfl ?_
            refine qv_pi ly_163 ⟨rfl, rfl, rfl⟩ (rfl) ?_
            refine qv_iload rfl ?_
            refine qv_iconst (v := 0) rfl ?_
            refine qv_iconst (v := 7) rfl ?_
            refine qv_staticE sg_Model_in rfl (r_Model_in hP (by omega) (nI k) (nI 0) (nI 7) _) ?_
            refine qv_if_eq_f (bI_ne.mpr (nI7in hk8)) (nx := 1) rfl ?_
            refine qW.blk rfl ?_
            refine qv_iload rfl ?_
            refine qv_iconst (v := 0) rfl ?_
            refine qv_iconst (v := 7) rfl ?_
            refine qv_staticE sg_Model_in rfl (r_Model_in hP (by omega) (nI l) (nI 0) (nI 7) _) ?_
            refine qv_if_ne_t (bI_ne.mpr (nI7in hl8)) (tgt := 3) rfl ?_
            refine qW.blk rfl ?_
            refine qv_aload rfl ?_
            refine qv_gr ly_163 ⟨rfl, rfl, rfl⟩ (by omega) ?_
            refine qv_iload rfl ?_
            refine qv_ia ly_196 rfl (by omega) (by decide) (c1) ?_
            refine qv_if_eqNf rfl (by omega) (by omega) (nx := 4) rfl ?_
            refine qW.blk rfl ?_
            refine qv_aload rfl ?_
            refine qv_gr ly_163 ⟨rfl, rfl, rfl⟩ (by omega) ?_
            refine qv_iload rfl ?_
            refine qv_ia ly_196 rfl (by omega) (by decide) (d1) ?_
            refine qv_if_neNt rfl (by omega) (by omega) (tgt := 6) rfl ?_
            refine qW.blk rfl ?_
            refine qv_aload rfl ?_
            refine qv_gr ly_163 ⟨rfl, rfl, rfl⟩ (by omega) ?_
            refine qv_iload rfl ?_
            refine qv_ia ly_196 rfl (by omega) (by decide) (c1) ?_
            refine qv_iconst (v := 2) rfl ?_
            refine qv_icmp_neNt (q := 2) rfl rfl (by omega) (by omega) (by omega) (tgt := 9) rfl ?_
            refine qW.blk rfl ?_
            refine qv_iconst (v := (-12)) rfl ?_
            refine qv_iret (rfl) ?_
            exact fin
    · refine ⟨.int (-1), A, hA, ?_, ?_⟩
      · intro s Q hJ hk
        refine qP.of (L := [_, _, _, _, _, _, _, _]) (by omega) (hP _ rfl) ms_Desk_copy rfl ?_
        show qW X PR (d - 1) (some .int) cd_Desk_copy 0 _ _ _ _
        refine qW.blk rfl ?_
        refine qv_aload rfl ?_
        refine qv_iload rfl ?_
        refine qv_virtE (ly_8.rcv _) sg_Desk_shelfAt rfl rfl (r_shelfAt_y hP (by omega) hk8) ?_
        refine qv_astore (L' := [_, _, _, _, _, _, _, _]) rfl ?_
        refine qv_aload rfl ?_
        refine qv_iload rfl ?_
        refine qv_virtE (ly_8.rcv _) sg_Desk_shelfAt rfl rfl (r_shelfAt_n hP (by omega) hn) ?_
        refine qv_astoreN (L' := [_, _, _, _, _, _, _, _]) rfl ?_
        refine qv_aload rfl ?_
        refine qv_null_f (nx := 1) rfl ?_
        refine qW.blk rfl ?_
        refine qv_aloadN rfl ?_
        refine qv_nonnull_f (nx := 2) rfl ?_
        refine qW.blk rfl ?_
        refine qv_iconst (v := (-1)) rfl ?_
        refine qv_iret (rfl) ?_
        exact hk s hJ (cfr.rf s)
      · intro s Q hJ hk
        refine qP.of (L := [_, _, _, _, _, _, _]) (by omega) (hP _ rfl) ms_Model_copy rfl ?_
        show qW X PR (d - 1) (some .int) cd_Model_copy 0 _ _ _ _
        refine qW.blk rfl ?_
        refine qv_aload rfl ?_
        refine qv_iconst (v := 0) rfl ?_
        refine qv_pi ly_163 ⟨rfl, rfl, rfl⟩ (rfl) ?_
        refine qv_iload rfl ?_
        refine qv_iconst (v := 0) rfl ?_
        refine qv_iconst (v := 7) rfl ?_
        refine qv_staticE sg_Model_in rfl (r_Model_in hP (by omega) (nI k) (nI 0) (nI 7) _) ?_
        refine qv_if_eq_f (bI_ne.mpr (nI7in hk8)) (nx := 1) rfl ?_
        refine qW.blk rfl ?_
        refine qv_iload rfl ?_
        refine qv_iconst (v := 0) rfl ?_
        refine qv_iconst (v := 7) rfl ?_
        refine qv_staticE sg_Model_in rfl (r_Model_in hP (by omega) b 0 (nI 7) _) ?_
        refine qv_if_ne_f (fun zq => zq (bI_f (not7 hn))) (nx := 2) rfl ?_
        refine qW.blk rfl ?_
        refine qv_iconst (v := (-1)) rfl ?_
        refine qv_iret (rfl) ?_
        exact hk (uF s 163 0 0) hJ.thr ((qfr.rf s).uF (by omega))
  · refine ⟨.int (-1), A, hA, ?_, ?_⟩
    · intro s Q hJ hk
      refine qP.of (L := [_, _, _, _, _, _, _, _]) (by omega) (hP _ rfl) ms_Desk_copy rfl ?_
      show qW X PR (d - 1) (some .int) cd_Desk_copy 0 _ _ _ _
      rcases pl_of b 8 with ⟨l, hl8, rfl⟩ | hn2
      · refine qW.blk rfl ?_
        refine qv_aload rfl ?_
        refine qv_iload rfl ?_
        refine qv_virtE (ly_8.rcv _) sg_Desk_shelfAt rfl rfl (r_shelfAt_n hP (by omega) hn) ?_
        refine qv_astoreN (L' := [_, _, _, _, _, _, _, _]) rfl ?_
        refine qv_aload rfl ?_
        refine qv_iload rfl ?_
        refine qv_virtE (ly_8.rcv _) sg_Desk_shelfAt rfl rfl (r_shelfAt_y hP (by omega) hl8) ?_
        refine qv_astore (L' := [_, _, _, _, _, _, _, _]) rfl ?_
        refine qv_aloadN rfl ?_
        refine qv_null_t (tgt := 2) rfl ?_
        refine qW.blk rfl ?_
        refine qv_iconst (v := (-1)) rfl ?_
        refine qv_iret (rfl) ?_
        exact hk s hJ (cfr.rf s)
      · refine qW.blk rfl ?_
        refine qv_aload rfl ?_
        refine qv_iload rfl ?_
        refine qv_virtE (ly_8.rcv _) sg_Desk_shelfAt rfl rfl (r_shelfAt_n hP (by omega) hn) ?_
        refine qv_astoreN (L' := [_, _, _, _, _, _, _, _]) rfl ?_
        refine qv_aload rfl ?_
        refine qv_iload rfl ?_
        refine qv_virtE (ly_8.rcv _) sg_Desk_shelfAt rfl rfl (r_shelfAt_n hP (by omega) hn2) ?_
        refine qv_astoreN (L' := [_, _, _, _, _, _, _, _]) rfl ?_
        refine qv_aloadN rfl ?_
        refine qv_null_t (tgt := 2) rfl ?_
        refine qW.blk rfl ?_
        refine qv_iconst (v := (-1)) rfl ?_
        refine qv_iret (rfl) ?_
        exact hk s hJ (cfr.rf s)
    · intro s Q hJ hk
      refine qP.of (L := [_, _, _, _, _, _, _]) (by omega) (hP _ rfl) ms_Model_copy rfl ?_
      show qW X PR (d - 1) (some .int) cd_Model_copy 0 _ _ _ _
      refine qW.blk rfl ?_
      refine qv_aload rfl ?_
      refine qv_iconst (v := 0) rfl ?_
      refine qv_pi ly_163 ⟨rfl, rfl, rfl⟩ (rfl) ?_
      refine qv_iload rfl ?_
      refine qv_iconst (v := 0) rfl ?_
      refine qv_iconst (v := 7) rfl ?_
      refine qv_staticE sg_Model_in rfl (r_Model_in hP (by omega) a 0 (nI 7) _) ?_
      refine qv_if_eq_t (bI_f (not7 hn)) (tgt := 2) rfl ?_
      refine qW.blk rfl ?_
      refine qv_iconst (v := (-1)) rfl ?_
      refine qv_iret (rfl) ?_
      exact hk (uF s 163 0 0) hJ.thr ((qfr.rf s).uF (by omega))
end
