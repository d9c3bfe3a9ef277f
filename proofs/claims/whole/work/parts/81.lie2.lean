/-! falseVote is alike, the rest -/
theorem lc0 (v : Int32) : (lg_cmp v.toInt64 0 < 0) ↔ v < 0 := by
  rw [lg_cmp_lt, Int64.lt_iff_toInt_lt, Int32.toInt_toInt64, Int32.lt_iff_toInt_lt]
  exact Iff.rfl
theorem lc9 (v : Int32) : (0 < lg_cmp v.toInt64 9) ↔ 9 < v := by
  rw [lg_cmp_gt, Int64.lt_iff_toInt_lt, Int32.toInt_toInt64, Int32.lt_iff_toInt_lt]
  exact Iff.rfl
theorem l2i_i2l (v : Int32) : v.toInt64.toInt32 = v := by simp
/-- the cells hold wishes -/
def wishy (z : Nat) (f : Nat → Int32) : Prop := z = 7 ∧ ∀ i, i < 7 → 0 ≤ f i ∧ f i ≤ nI 9
section
variable {X : pm_X} {PR : pm_P} {s : QST} {Q : QPost}
theorem w_holdsWishes (hP : pm_np PR) {d : Nat} (hd : 2 ≤ d) {k z : Nat} (hk8 : k < 8) (h2 : qF s (123 + 5 * k) 2 = nI z) (hz : z ≤ 120) [hdec : Decidable (wishy z (qE s (123 + 5 * k + 4)))] (hk : Q (some (.int (bI (wishy z (qE s (123 + 5 * k + 4)))))) s) : qP X PR d 99 [.ref (123 + 5 * k)] s Q := by
  refine qP.of (L := [_, _]) (by omega) (hP _ rfl) ms_Shelf_holdsWishes rfl ?_
  show qW X PR (d - 1) (some .boolean) cd_Shelf_holdsWishes 0 _ _ _ _
  by_cases h7 : z = 7
  · have loop : ∀ (c i : Nat), i + c = 7 → (∀ j, j < i → 0 ≤ qE s (123 + 5 * k + 4) j ∧ qE s (123 + 5 * k + 4) j ≤ nI 9) → qW X PR (d - 1) (some .boolean) cd_Shelf_holdsWishes 3 [some (.ref (123 + 5 * k)), some (.int (nI i))] [] s Q := by
      intro c
      induction c with
      | zero =>
        intro i hi hg
        have e : i = 7 := by omega
        subst e
        rw [bI_t ⟨h7, hg⟩] at hk
        refine qW.blk rfl ?_
        refine qv_iload rfl ?_
        refine qv_iconst (v := 7) rfl ?_
        refine qv_icmp_geNt (q := 7) rfl rfl (by omega) (by omega) (by omega) (tgt := 7) rfl ?_
        refine qW.blk rfl ?_
        refine qv_iconst (v := 1) rfl ?_
        refine qv_iret (by first | exact bI_ret | rfl) ?_
        exact hk
      | succ c ih =>
        intro i hi hg
        by_cases h : 0 ≤ qE s (123 + 5 * k + 4) i ∧ qE s (123 + 5 * k + 4) i ≤ nI 9
        · refine qW.blk rfl ?_
          refine qv_iload rfl ?_
          refine qv_iconst (v := 7) rfl ?_
          refine qv_icmp_geNf (q := 7) rfl rfl (by omega) (by omega) (by omega) (nx := 4) rfl ?_
          refine qW.blk rfl ?_
          refine qv_aload rfl ?_
          refine qv_gr (ly_sh (d := k) (by omega)) ⟨rfl, rfl, rfl⟩ (by omega) ?_
          refine qv_iload rfl ?_
          refine qv_ia (ly_shc (d := k) (by omega)) rfl (by omega) (by decide) rfl ?_
          refine qv_iconst (v := 0) rfl ?_
          refine qv_iconst (v := 9) rfl ?_
          refine qv_staticE sg_Desk_within rfl (r_Desk_within hP (by omega) (qE s (123 + 5 * k + 4) i) 0 (nI 9) _) ?_
          refine qv_if_ne_t (bI_ne.mpr (h)) (tgt := 6) rfl ?_
          refine qW.blk rfl ?_
          refine qv_iinc (L' := [_, _]) rfl (nI_succ _).symm rfl ?_
          refine qv_goto (tgt := 3) rfl ?_
          exact ih (i + 1) (by omega) (fun j hj => by
            by_cases e : j = i
            · subst e; exact h
            · exact hg j (by omega))
        · rw [bI_f (fun z => h (z.2 i (by omega)))] at hk
          refine qW.blk rfl ?_
          refine qv_iload rfl ?_
          refine qv_iconst (v := 7) rfl ?_
          refine qv_icmp_geNf (q := 7) rfl rfl (by omega) (by omega) (by omega) (nx := 4) rfl ?_
          refine qW.blk rfl ?_
          refine qv_aload rfl ?_
          refine qv_gr (ly_sh (d := k) (by omega)) ⟨rfl, rfl, rfl⟩ (by omega) ?_
          refine qv_iload rfl ?_
          refine qv_ia (ly_shc (d := k) (by omega)) rfl (by omega) (by decide) rfl ?_
          refine qv_iconst (v := 0) rfl ?_
          refine qv_iconst (v := 9) rfl ?_
          refine qv_staticE sg_Desk_within rfl (r_Desk_within hP (by omega) (qE s (123 + 5 * k + 4) i) 0 (nI 9) _) ?_
          refine qv_if_ne_f (fun zq => zq (bI_f (h))) (nx := 5) rfl ?_
          refine qW.blk rfl ?_
          refine qv_iconst (v := 0) rfl ?_
          refine qv_iret (by first | exact bI_ret | rfl) ?_
          exact hk
    refine qW.blk rfl ?_
    refine qv_aload rfl ?_
    refine qv_gi (ly_sh (d := k) (by omega)) ⟨rfl, rfl, rfl⟩ (h2) ?_
    refine qv_iconst (v := 7) rfl ?_
    refine qv_icmp_eqNt (q := 7) rfl rfl (by omega) (by omega) (by omega) (tgt := 2) rfl ?_
    refine qW.blk rfl ?_
    refine qv_iconst (v := 0) rfl ?_
    refine qv_istore (L' := [_, _]) rfl ?_
    refine qv_nil (nx := 3) rfl ?_
    exact loop 7 0 (by omega) (fun j hj => by omega)
  · rw [bI_f (fun q => h7 q.1)] at hk
    refine qW.blk rfl ?_
    refine qv_aload rfl ?_
    refine qv_gi (ly_sh (d := k) (by omega)) ⟨rfl, rfl, rfl⟩ (h2) ?_
    refine qv_iconst (v := 7) rfl ?_
    refine qv_icmp_eqNf (q := 7) rfl rfl (by omega) (by omega) (by omega) (nx := 1) rfl ?_
    refine qW.blk rfl ?_
    refine qv_iconst (v := 0) rfl ?_
    refine qv_iret (by first | exact bI_ret | rfl) ?_
    exact hk
end
section
variable {X : pm_X} {PR : pm_P}
theorem Sim_falseVote (hP : pm_np PR) (t b : Int32) : Sim X PR 143 234 [.int t, .int b] := by
  intro d A hd hA
  have hC := hA.1
  have hM := hC.2.2.2.1
  have h12 := hC.2.2.2.2.1
  rcases pl_of t (aC A 3) with ⟨k, hk3, rfl⟩ | hn
  · have hD := hA.2.2.2.1 k hk3
    have hK0 := hD.1
    rcases pl_of b 8 with ⟨l, hl8, rfl⟩ | hnb
    · obtain ⟨s1, s2, s3, s4, -⟩ := hA.2.2.2.2 l hl8
      by_cases hr : refB (aS A l).1 (aS A l).2.1 = 0
      · have h2 : (aS A l).1 = 2 := by
          unfold refB refU at hr
          by_cases e : (aS A l).1 = 2
          · exact e
          · rw [if_neg (fun z => e z.1)] at hr
            split at hr
            · exact absurd hr (by decide)
            · exact absurd hr (by decide)
        obtain ⟨hdec⟩ : Nonempty (∀ z f, Decidable (wishy z f)) := ⟨fun _ _ => Classical.propDecidable _⟩
        by_cases hw : wishy (aS A l).2.2.1 (aS A l).2.2.2.1
        · obtain ⟨m, hmN, hall, hlast⟩ : ∃ m, m ≤ aC A 2 ∧ (∀ j, j < m → ¬ gains (aC A) (aT A k) (aS A l).2.2.2.1 j) ∧ (m = aC A 2 ∨ (m < aC A 2 ∧ gains (aC A) (aT A k) (aS A l).2.2.2.1 m)) := by
            by_cases h : ∃ j, j < aC A 2 ∧ gains (aC A) (aT A k) (aS A l).2.2.2.1 j
            · obtain ⟨m, h1, h2⟩ := pk_least _ h
              exact ⟨m, by omega, fun j hj hg => h2 j hj ⟨by omega, hg⟩, Or.inr h1⟩
            · exact ⟨_, Nat.le_refl _, fun j hj hg => h ⟨j, hj, hg⟩, Or.inl rfl⟩
          obtain ⟨r, hr'⟩ : ∃ r : Int32, (if m = aC A 2 then -4 else nI m) = r := ⟨_, rfl⟩
          refine ⟨.int r, A, hA, ?_, ?_⟩
          · intro s Q hJ hk
            obtain ⟨T, hT1, hT2⟩ := hJ.2.2.2.1 k hk3
            obtain ⟨c1, c2, -⟩ := hJ.2.2.2.2 l hl8
            obtain ⟨c3, c4, c5⟩ := c2 h2
            have hw' : wishy (aS A l).2.2.1 (qE s (123 + 5 * l + 4)) := ⟨hw.1, fun i hi => by rw [c5 i (by omega)]; exact hw.2 i hi⟩
            have hga : ∀ j, gains (aC A) (aT A k) (qE s (123 + 5 * l + 4)) j ↔ gains (aC A) (aT A k) (aS A l).2.2.2.1 j := by
              intro j
              unfold gains
              have e : (gval (wLie (cvw (aC A)) j (qE s (123 + 5 * l + 4))) (aT A k).2.1 ((aT A k).2.2.2.1 - 1)).2.1 = (gval (wLie (cvw (aC A)) j (aS A l).2.2.2.1) (aT A k).2.1 ((aT A k).2.2.2.1 - 1)).2.1 := by
                refine (gval_ve (W := wLie (cvw (aC A)) j (qE s (123 + 5 * l + 4))) (W' := wLie (cvw (aC A)) j (aS A l).2.2.2.1) ⟨rfl, rfl, fun m' hm' => ⟨rfl, rfl, fun _ => rfl, fun _ => rfl, fun _ => rfl, fun x y hx hy => ?_⟩⟩ (wLie_ok (cvw_ok5 hC)).u hD.2.2.2.1 ((aT A k).2.2.2.1 - 1) (by omega)).1.2.1
                have ex : ∀ x, x < 7 → gW (wLie (cvw (aC A)) j (qE s (123 + 5 * l + 4))) m' x = gW (wLie (cvw (aC A)) j (aS A l).2.2.2.1) m' x := fun x hx => by
                  show (if m' = j then qE s (123 + 5 * l + 4) x else _) = (if m' = j then (aS A l).2.2.2.1 x else _)
                  rw [c5 x (by omega)]
                rw [ex x hx, ex y hy]
              rw [e]
            have fin : ∀ s', qfr 74 110 s s' → Q (some (.int r)) s' := fun s' F => hk s' (hJ.fr hA F (by omega)) (F.c (by omega) (by omega))
            refine qP.of (L := [_, _, _, _, _, _]) (by omega) (hP _ rfl) ms_Desk_falseVote rfl ?_
            show qW X PR (d - 1) (some .int) cd_Desk_falseVote 0 _ _ _ _
            refine qW.blk rfl ?_
            refine qv_aload rfl ?_
            refine qv_gr ly_8 ⟨rfl, rfl, rfl⟩ (by omega) ?_
            refine qv_iload rfl ?_
            refine qv_virtE (ly_9.rcv _) sg_Chamber_treeAt rfl rfl (r_treeAt_y hP (by omega) hJ.1.2.2.2.1 h12 hk3 hT1) ?_
            refine qv_astore (L' := [_, _, _, _, _, _]) rfl ?_
            refine qv_aload rfl ?_
            refine qv_iload rfl ?_
            refine qv_virtE (ly_8.rcv _) sg_Desk_shelfAt rfl rfl (r_shelfAt_y hP (by omega) hl8) ?_
            refine qv_astore (L' := [_, _, _, _, _, _]) rfl ?_
            refine qv_aload rfl ?_
            refine qv_null_f (nx := 1) rfl ?_
            refine qW.blk rfl ?_
            refine qv_aload rfl ?_
            refine qv_nonnull_t (tgt := 3) rfl ?_
            refine qW.blk rfl ?_
            refine qv_aload rfl ?_
            refine qv_iconst (v := 3) rfl ?_
            refine qv_staticE sg_Desk_refusalOf rfl (r_bytesRefusal hP (by omega) hl8 c1 s1 (fun _ => c3) s2) ?_
            refine qv_istore (L' := [_, _, _, _, _, _]) rfl ?_
            refine qv_iload rfl ?_
            refine qv_if_eq_t (hr) (tgt := 5) rfl ?_
            refine qW.blk rfl ?_
            refine qv_aload rfl ?_
            refine qv_virt ((ly_sh (d := l) (by omega)).rcv _) sg_Shelf_holdsWishes rfl rfl (w_holdsWishes hP (by omega) hl8 c4 s3 ?_) 
            refine qv_if_ne_t (bI_ne.mpr (hw')) (tgt := 7) rfl ?_
            refine qW.blk rfl ?_
            refine qv_aload rfl ?_
            refine qv_gr ly_8 ⟨rfl, rfl, rfl⟩ (by omega) ?_
            refine qv_aload rfl ?_
            refine qv_aload rfl ?_
            refine qv_gr (ly_sh (d := l) (by omega)) ⟨rfl, rfl, rfl⟩ (by omega) ?_
            refine qv_virt (ly_115.rcv _) sg_Plots_firstGaining rfl rfl (w_firstGaining hP (by omega) hJ.1 hC hD (m0 := m) hT2 (ly_shc hl8) (by omega) hmN (fun j hj z => hall j hj ((hga j).mp z)) ?_) 
            rcases hlast with e | ⟨e1, e2⟩
            · rw [if_pos e] at hr'
              refine Or.inl ⟨e, fun s' F => ?_⟩
              refine qv_iret rfl ?_
              rw [hr']
              exact fin s' F
            · rw [if_neg (by omega)] at hr'
              refine Or.inr ⟨e1, (hga m).mpr e2, fun s' F => ?_⟩
              refine qv_iret rfl ?_
              rw [hr']
              exact fin s' F
          · intro s Q hJ hk
            have J1 := hJ.thr (v := 0)
            have rv := rview_neu J1.1 hC J1.2.2.2.2.2
            obtain ⟨c1, c2, -⟩ := J1.2.2.2.2.1 l hl8
            obtain ⟨c3, c4, c5⟩ := c2 h2
            have hr0 : refB (aS A l).1 (aS A l).2.1 = nI 0 := hr
            have c4' : qE (uF s 163 0 0) 200 l = nI 7 := by rw [c4, hw.1]
            obtain ⟨hon, hhon⟩ : ∃ hon, (gval (cvw (aC A)) (aT A k).2.1 ((aT A k).2.2.2.1 - 1)).2.1 = hon := ⟨_, rfl⟩
            have hh7 : hon < 7 := by rw [← hhon]; exact (gval_lt hD (cvw_ok5 hC).u).1
            refine qP.of (L := [_, _, _, _, _, _, _, _]) (by omega) (hP _ rfl) ms_Model_falseVote rfl ?_
            show qW X PR (d - 1) (some .int) cd_Model_falseVote 0 _ _ _ _
            have loop3 : ∀ (c j : Nat) (s1 : QST) (L7 : Option Value), j + c = m → kfr 31 (uF s 163 0 0) s1 → qF s1 163 31 = -1 → (∀ e, e < 7 → qE s1 182 e = (aS A l).2.2.2.1 e) → qW X PR (d - 1) (some .int) cd_Model_falseVote 21 [some (.ref (163)), some (.int (nI k)), some (.int (nI l)), some (.int 0), some (.int 1), some (.int (nI hon)), some (.int (nI j)), L7] [] s1 Q := by
              intro c
              -- one member
              have body : ∀ (j : Nat) (s1 : QST) (L7 : Option Value), j < aC A 2 → kfr 31 (uF s 163 0 0) s1 → (∀ e, e < 7 → qE s1 182 e = (aS A l).2.2.2.1 e) → (∀ s2 (L7 : Option Value), kfr 31 (uF s 163 0 0) s2 → qF s2 163 31 = -1 → (∀ e, e < 7 → qE s2 182 e = (aS A l).2.2.2.1 e) → ¬ gains (aC A) (aT A k) (aS A l).2.2.2.1 j → qW X PR (d - 1) (some .int) cd_Model_falseVote 24 [some (.ref (163)), some (.int (nI k)), some (.int (nI l)), some (.int 0), some (.int 1), some (.int (nI hon)), some (.int (nI j)), L7] [] s2 Q) → (gains (aC A) (aT A k) (aS A l).2.2.2.1 j → ∀ s2 (L7 : Option Value), kfr 31 (uF s 163 0 0) s2 → qF s2 163 31 = -1 → qW X PR (d - 1) (some .int) cd_Model_falseVote 23 [some (.ref (163)), some (.int (nI k)), some (.int (nI l)), some (.int 0), some (.int 1), some (.int (nI hon)), some (.int (nI j)), L7] [] s2 Q) → qW X PR (d - 1) (some .int) cd_Model_falseVote 22 [some (.ref (163)), some (.int (nI k)), some (.int (nI l)), some (.int 0), some (.int 1), some (.int (nI hon)), some (.int (nI j)), L7] [] s1 Q := by
                intro j s1 L7 hj F1 h182 k24 k23
                have F2 := F1.sF (k := 31) (v := nI j) (by omega)
                have K2 := J1.k F2
                have rv2 := rview_lie K2.1 hC K2.2.2 (l := j) (by omega) qF_uFs (f := (aS A l).2.2.2.1) h182
                obtain ⟨got, hgot⟩ : ∃ got, (gval (wLie (cvw (aC A)) j (aS A l).2.2.2.1) (aT A k).2.1 ((aT A k).2.2.2.1 - 1)).2.1 = got := ⟨_, rfl⟩
                have hg7 : got < 7 := by rw [← hgot]; exact (gval_lt hD (wLie_ok (cvw_ok5 hC)).u).1
                have w9 := (hC.2.2.2.2.2 j hj).2.2.2.2.2.2
                have b1 := (w9 got hg7).1
                have b2 := (w9 hon hh7).1
                have fin : ∀ s3, efr (uF s1 163 31 (nI j)) s3 → kfr 31 (uF s 163 0 0) (uF s3 163 31 (-1)) ∧ qF (uF s3 163 31 (-1)) 163 31 = -1 ∧ (∀ e, e < 7 → qE (uF s3 163 31 (-1)) 182 e = (aS A l).2.2.2.1 e) ∧ rC (uF s3 163 31 (-1)) 164 (aC A) := by
                  intro s3 F3
                  have F4 := (F2.e F3).sF (k := 31) (v := -1) (by omega)
                  exact ⟨F4, qF_uFs, fun e he => by rw [qE_uF, F3.2.1 182 (by omega) (by omega)]; exact h182 e he, (J1.k F4).1⟩
                by_cases hg : gains (aC A) (aT A k) (aS A l).2.2.2.1 j
                · have hg' := hg
                  unfold gains at hg'
                  rw [hgot, hhon] at hg'
                  refine qW.blk rfl ?_
                  refine qv_aload rfl ?_
                  refine qv_iload rfl ?_
                  refine qv_pi ly_163 ⟨rfl, rfl, rfl⟩ (rfl) ?_
                  refine qv_aload rfl ?_
                  refine qv_iload rfl ?_
                  refine qv_virt (ly_163.rcv _) sg_Model_endOf rfl rfl (w_M_endOf hP (by omega) rv2 (by omega) hD (K2.2.1 k hk3) (fun s3 F3 _ _ _ => ?_)) 
                  refine qv_top (congrArg nI hgot) ?_
                  refine qv_istore (L' := [_, _, _, _, _, _, _, _]) rfl ?_
                  refine qv_aload rfl ?_
                  refine qv_iconst (v := (-1)) rfl ?_
                  refine qv_pi ly_163 ⟨rfl, rfl, rfl⟩ (rfl) ?_
                  refine qv_aload rfl ?_
                  refine qv_gr ly_163 ⟨rfl, rfl, rfl⟩ (by omega) ?_
                  refine qv_iconst (v := 60) rfl ?_
                  refine qv_iconst (v := 7) rfl ?_
                  refine qv_iload rfl ?_
                  refine qv_imulN (p := 7) rfl rfl ?_
                  refine qv_iaddN (p := 60) rfl rfl ?_
                  refine qv_iload rfl ?_
                  refine qv_iaddN rfl rfl ?_
                  refine qv_ia ly_164 rfl (by omega) (by decide) ((fin s3 F3).2.2.2 (60 + 7 * j + got) (by omega)) ?_
                  refine qv_aload rfl ?_
                  refine qv_gr ly_163 ⟨rfl, rfl, rfl⟩ (by omega) ?_
                  refine qv_iconst (v := 60) rfl ?_
                  refine qv_iconst (v := 7) rfl ?_
                  refine qv_iload rfl ?_
                  refine qv_imulN (p := 7) rfl rfl ?_
                  refine qv_iaddN (p := 60) rfl rfl ?_
                  refine qv_iload rfl ?_
                  refine qv_iaddN rfl rfl ?_
                  refine qv_ia ly_164 rfl (by omega) (by decide) ((fin s3 F3).2.2.2 (60 + 7 * j + hon) (by omega)) ?_
                  refine qv_icmp_geNf rfl rfl (by omega) (by omega) (by omega) (nx := 23) rfl ?_
                  obtain ⟨x1, x2, x3, x4⟩ := fin s3 F3
                  exact k23 hg _ _ x1 x2
                · have hg' := hg
                  unfold gains at hg'
                  rw [hgot, hhon] at hg'
                  refine qW.blk rfl ?_
                  refine qv_aload rfl ?_
                  refine qv_iload rfl ?_
                  refine qv_pi ly_163 ⟨rfl, rfl, rfl⟩ (rfl) ?_
                  refine qv_aload rfl ?_
                  refine qv_iload rfl ?_
                  refine qv_virt (ly_163.rcv _) sg_Model_endOf rfl rfl (w_M_endOf hP (by omega) rv2 (by omega) hD (K2.2.1 k hk3) (fun s3 F3 _ _ _ => ?_)) 
                  refine qv_top (congrArg nI hgot) ?_
                  refine qv_istore (L' := [_, _, _, _, _, _, _, _]) rfl ?_
                  refine qv_aload rfl ?_
                  refine qv_iconst (v := (-1)) rfl ?_
                  refine qv_pi ly_163 ⟨rfl, rfl, rfl⟩ (rfl) ?_
                  refine qv_aload rfl ?_
                  refine qv_gr ly_163 ⟨rfl, rfl, rfl⟩ (by omega) ?_
                  refine qv_iconst (v := 60) rfl ?_
                  refine qv_iconst (v := 7) rfl ?_
                  refine qv_iload rfl ?_
                  refine qv_imulN (p := 7) rfl rfl ?_
                  refine qv_iaddN (p := 60) rfl rfl ?_
                  refine qv_iload rfl ?_
                  refine qv_iaddN rfl rfl ?_
                  refine qv_ia ly_164 rfl (by omega) (by decide) ((fin s3 F3).2.2.2 (60 + 7 * j + got) (by omega)) ?_
                  refine qv_aload rfl ?_
                  refine qv_gr ly_163 ⟨rfl, rfl, rfl⟩ (by omega) ?_
                  refine qv_iconst (v := 60) rfl ?_
                  refine qv_iconst (v := 7) rfl ?_
                  refine qv_iload rfl ?_
                  refine qv_imulN (p := 7) rfl rfl ?_
                  refine qv_iaddN (p := 60) rfl rfl ?_
                  refine qv_iload rfl ?_
                  refine qv_iaddN rfl rfl ?_
                  refine qv_ia ly_164 rfl (by omega) (by decide) ((fin s3 F3).2.2.2 (60 + 7 * j + hon) (by omega)) ?_
                  refine qv_icmp_geNt rfl rfl (by omega) (by omega) (by omega) (tgt := 24) rfl ?_
                  obtain ⟨x1, x2, x3, x4⟩ := fin s3 F3
                  exact k24 _ _ x1 x2 x3 hg
              have done : ∀ s1, kfr 31 (uF s 163 0 0) s1 → qF s1 163 31 = -1 → Q (some (.int r)) s1 := fun s1 F1 h31 => by
                have F := F1.done (h31.trans J1.2.2.2.2.2.2.2.2.1.symm)
                exact hk s1 (J1.fr F) (((qfr.rf s).uF (by omega)).trans F.1)
              induction c with
              | zero =>
                intro j s1 L7 hj F1 h31 h182
                have e : j = m := by omega
                subst e
                have K1 := J1.k F1
                rcases hlast with e | ⟨e1, e2⟩
                · rw [if_pos e] at hr'
                  refine qW.blk rfl ?_
                  refine qv_iload rfl ?_
                  refine qv_aload rfl ?_
                  refine qv_gr ly_163 ⟨rfl, rfl, rfl⟩ (by omega) ?_
                  refine qv_iconst (v := 2) rfl ?_
                  refine qv_ia (j := 2) ly_164 rfl (by omega) (by decide) (K1.1 2 (by decide)) ?_
                  refine qv_icmp_geNt rfl rfl (by omega) (by omega) (by omega) (tgt := 25) rfl ?_
                  refine qW.blk rfl ?_
                  refine qv_iconst (v := (-4)) rfl ?_
                  refine qv_iret (rfl) ?_
                  rw [hr']
                  exact done s1 F1 h31
                · rw [if_neg (by omega)] at hr'
                  refine qW.blk rfl ?_
                  refine qv_iload rfl ?_
                  refine qv_aload rfl ?_
                  refine qv_gr ly_163 ⟨rfl, rfl, rfl⟩ (by omega) ?_
                  refine qv_iconst (v := 2) rfl ?_
                  refine qv_ia (j := 2) ly_164 rfl (by omega) (by decide) (K1.1 2 (by decide)) ?_
                  refine qv_icmp_geNf rfl rfl (by omega) (by omega) (by omega) (nx := 22) rfl ?_
                  refine body j s1 _ e1 F1 h182 (fun s2 L7 _ _ _ hn => absurd e2 hn) (fun _ s2 L7 F2 h31' => ?_)
                  refine qW.blk rfl ?_
                  refine qv_iload rfl ?_
                  refine qv_iret (rfl) ?_
                  rw [hr']
                  exact done s2 F2 h31'
              | succ c ih =>
                intro j s1 L7 hj F1 h31 h182
                have K1 := J1.k F1
                refine qW.blk rfl ?_
                refine qv_iload rfl ?_
                refine qv_aload rfl ?_
                refine qv_gr ly_163 ⟨rfl, rfl, rfl⟩ (by omega) ?_
                refine qv_iconst (v := 2) rfl ?_
                refine qv_ia (j := 2) ly_164 rfl (by omega) (by decide) (K1.1 2 (by decide)) ?_
                refine qv_icmp_geNf rfl rfl (by omega) (by omega) (by omega) (nx := 22) rfl ?_
                refine body j s1 _ (by omega) F1 h182 (fun s2 L7 F2 h31' h182' _ => ?_) (fun hg => absurd hg (hall j (by omega)))
                refine qW.blk rfl ?_
                refine qv_iinc (L' := [_, _, _, _, _, _, _, _]) rfl (nI_succ _).symm rfl ?_
                refine qv_goto (tgt := 21) rfl ?_
                exact ih (j + 1) s2 _ (by omega) F2 h31' h182'
            have loop2 : ∀ (c i : Nat) (s1 : QST) (L7 : Option Value), i + c = 7 → kfr 31 (uF s 163 0 0) s1 → qF s1 163 31 = -1 → (∀ e, e < i → qE s1 182 e = (aS A l).2.2.2.1 e) → qW X PR (d - 1) (some .int) cd_Model_falseVote 18 [some (.ref (163)), some (.int (nI k)), some (.int (nI l)), some (.int 0), some (.int 1), some (.int (nI hon)), some (.int (nI i)), L7] [] s1 Q := by
              intro c
              induction c with
              | zero =>
                intro i s1 L7 hi F1 h31 h182
                have e : i = 7 := by omega
                subst e
                refine qW.blk rfl ?_
                refine qv_iload rfl ?_
                refine qv_iconst (v := 7) rfl ?_
                refine qv_icmp_geNt (q := 7) rfl rfl (by omega) (by omega) (by omega) (tgt := 20) rfl ?_
                refine qW.blk rfl ?_
                refine qv_iconst (v := 0) rfl ?_
                refine qv_istore (L' := [_, _, _, _, _, _, _, _]) rfl ?_
                refine qv_nil (nx := 21) rfl ?_
                exact loop3 m 0 s1 _ (by omega) F1 h31 h182
              | succ c ih =>
                intro i s1 L7 hi F1 h31 h182
                have e1 : qL s1 201 (120 * l + i) = ((aS A l).2.2.2.1 i).toInt64 := by rw [F1.2.2.1]; exact c5 i (by omega)
                refine qW.blk rfl ?_
                refine qv_iload rfl ?_
                refine qv_iconst (v := 7) rfl ?_
                refine qv_icmp_geNf (q := 7) rfl rfl (by omega) (by omega) (by omega) (nx := 19) rfl ?_
                refine qW.blk rfl ?_
                refine qv_aload rfl ?_
                refine qv_gr ly_163 ⟨rfl, rfl, rfl⟩ (by omega) ?_
                refine qv_iload rfl ?_
                refine qv_aload rfl ?_
                refine qv_gr ly_163 ⟨rfl, rfl, rfl⟩ (by omega) ?_
                refine qv_iconst (v := 120) rfl ?_
                refine qv_iload rfl ?_
                refine qv_imulN (p := 120) rfl rfl ?_
                refine qv_iload rfl ?_
                refine qv_iaddN rfl rfl ?_
                refine qv_la ly_201 rfl (by omega) (by decide) (e1) ?_
                refine qv_l2i ?_
                refine qv_top (l2i_i2l _) ?_
                refine qv_is ly_182 rfl (by omega) (by decide) ?_
                refine qv_iinc (L' := [_, _, _, _, _, _, _, _]) rfl (nI_succ _).symm rfl ?_
                refine qv_goto (tgt := 18) rfl ?_
                refine ih (i + 1) _ _ (by omega) (F1.trans ⟨(qfr.rf s1).uE (by omega), fun c hc => qE_uEc (by omega), rfl, fun _ _ _ => rfl⟩) h31 (fun e he => ?_)
                by_cases ee : e = i
                · subst ee; rw [qE_uEs]
                · rw [qE_uEk ee]; exact h182 e (by omega)
            have loop1 : ∀ (c i : Nat), i + c = 7 → qW X PR (d - 1) (some .int) cd_Model_falseVote 8 [some (.ref (163)), some (.int (nI k)), some (.int (nI l)), some (.int 0), some (.int 1), some (.int (nI i)), none, none] [] (uF s 163 0 0) Q := by
              intro c
              induction c with
              | zero =>
                intro i hi
                have e : i = 7 := by omega
                subst e
                refine qW.blk rfl ?_
                refine qv_iload rfl ?_
                refine qv_iconst (v := 7) rfl ?_
                refine qv_icmp_geNt (q := 7) rfl rfl (by omega) (by omega) (by omega) (tgt := 15) rfl ?_
                refine qW.blk rfl ?_
                refine qv_iload rfl ?_
                refine qv_if_ne_t (by decide) (tgt := 17) rfl ?_
                refine qW.blk rfl ?_
                refine qv_aload rfl ?_
                refine qv_iload rfl ?_
                refine qv_virt (ly_163.rcv _) sg_Model_endOf rfl rfl (w_M_endOf hP (by omega) rv (by omega) hD (J1.2.2.2.1 k hk3) (fun s1 F1 _ _ _ => ?_)) 
                refine qv_top (congrArg nI hhon) ?_
                refine qv_istore (L' := [_, _, _, _, _, _, _, _]) rfl ?_
                refine qv_iconst (v := 0) rfl ?_
                refine qv_istore (L' := [_, _, _, _, _, _, _, _]) rfl ?_
                refine qv_nil (nx := 18) rfl ?_
                exact loop2 7 0 s1 _ (by omega) ((kfr.rf 31 (uF s 163 0 0)).e F1) ((F1.2.2.2 31 (by omega)).trans J1.2.2.2.2.2.2.2.2.1) (fun e he => by omega)
              | succ c ih =>
                intro i hi
                obtain ⟨g1, g2⟩ := hw.2 i (by omega)
                have n1 : ¬ (lg_cmp ((aS A l).2.2.2.1 i).toInt64 0 < 0) := fun z => Int32.not_lt.mpr g1 ((lc0 _).mp z)
                have n2 : ¬ (0 < lg_cmp ((aS A l).2.2.2.1 i).toInt64 9) := fun z => Int32.not_lt.mpr g2 ((lc9 _).mp z)
                refine qW.blk rfl ?_
                refine qv_iload rfl ?_
                refine qv_iconst (v := 7) rfl ?_
                refine qv_icmp_geNf (q := 7) rfl rfl (by omega) (by omega) (by omega) (nx := 9) rfl ?_
                refine qW.blk rfl ?_
                refine qv_iload rfl ?_
                refine qv_if_eq_f (by decide) (nx := 10) rfl ?_
                refine qW.blk rfl ?_
                refine qv_aload rfl ?_
                refine qv_gr ly_163 ⟨rfl, rfl, rfl⟩ (by omega) ?_
                refine qv_iconst (v := 120) rfl ?_
                refine qv_iload rfl ?_
                refine qv_imulN (p := 120) rfl rfl ?_
                refine qv_iload rfl ?_
                refine qv_iaddN rfl rfl ?_
                refine qv_la ly_201 rfl (by omega) (by decide) (c5 i (by omega)) ?_
                refine qv_lconst (v := 0) rfl ?_
                refine qv_lcmp ?_
                refine qv_if_lt_f (n1) (nx := 11) rfl ?_
                refine qW.blk rfl ?_
                refine qv_aload rfl ?_
                refine qv_gr ly_163 ⟨rfl, rfl, rfl⟩ (by omega) ?_
                refine qv_iconst (v := 120) rfl ?_
                refine qv_iload rfl ?_
                refine qv_imulN (p := 120) rfl rfl ?_
                refine qv_iload rfl ?_
                refine qv_iaddN rfl rfl ?_
                refine qv_la ly_201 rfl (by omega) (by decide) (c5 i (by omega)) ?_
                refine qv_lconst (v := 9) rfl ?_
                refine qv_lcmp ?_
                refine qv_if_gt_f (n2) (nx := 12) rfl ?_
                refine qW.blk rfl ?_
                refine qv_iconst (v := 1) rfl ?_
                refine qv_goto (tgt := 14) rfl ?_
                refine qW.blk rfl ?_
                refine qv_istore (L' := [_, _, _, _, _, _, _, _]) rfl ?_
                refine qv_iinc (L' := [_, _, _, _, _, _, _, _]) rfl (nI_succ _).symm rfl ?_
                refine qv_goto (tgt := 8) rfl ?_
                exact ih (i + 1) (by omega)
            refine qW.blk rfl ?_
            refine qv_aload rfl ?_
            refine qv_iconst (v := 0) rfl ?_
            refine qv_pi ly_163 ⟨rfl, rfl, rfl⟩ (rfl) ?_
            refine qv_aload rfl ?_
            refine qv_iload rfl ?_
            refine qv_virtE (ly_163.rcv _) sg_Model_isTree rfl rfl (r_M_isTree hP (by omega) (nI k) (J1.1 3 (by decide))) ?_
            refine qv_if_ne_t (bI_ne.mpr ((in_nI1 (by omega)).mpr ⟨k, hk3, rfl⟩)) (tgt := 2) rfl ?_
            refine qW.blk rfl ?_
            refine qv_aload rfl ?_
            refine qv_iload rfl ?_
            refine qv_virt (ly_163.rcv _) sg_Model_lacks rfl rfl (w_M_lacks hP (by omega) hl8 c1 s1 (fun _ => c3) s2 ?_) 
            refine qv_istore (L' := [_, _, _, _, _, _, _, _]) rfl ?_
            refine qv_iload rfl ?_
            refine qv_if_ge_t (by rw [hr0]; decide) (tgt := 4) rfl ?_
            refine qW.blk rfl ?_
            refine qv_aload rfl ?_
            refine qv_gr ly_163 ⟨rfl, rfl, rfl⟩ (by omega) ?_
            refine qv_iload rfl ?_
            refine qv_ia ly_200 rfl (by omega) (by decide) (c4') ?_
            refine qv_iconst (v := 7) rfl ?_
            refine qv_icmp_neNf (q := 7) rfl rfl (by omega) (by omega) (by omega) (nx := 5) rfl ?_
            refine qW.blk rfl ?_
            refine qv_iconst (v := 1) rfl ?_
            refine qv_goto (tgt := 7) rfl ?_
            refine qW.blk rfl ?_
            refine qv_istore (L' := [_, _, _, _, _, _, _, _]) rfl ?_
            refine qv_iconst (v := 0) rfl ?_
            refine qv_istore (L' := [_, _, _, _, _, _, _, _]) rfl ?_
            refine qv_nil (nx := 8) rfl ?_
            rw [hr]
            exact loop1 7 0 (by omega)
        · refine ⟨.int (-13), A, hA, ?_, ?_⟩
          · intro s Q hJ hk
            obtain ⟨T, hT1, hT2⟩ := hJ.2.2.2.1 k hk3
            obtain ⟨c1, c2, -⟩ := hJ.2.2.2.2 l hl8
            obtain ⟨c3, c4, c5⟩ := c2 h2
            have hw' : ¬ wishy (aS A l).2.2.1 (qE s (123 + 5 * l + 4)) := fun z => hw ⟨z.1, fun i hi => by rw [← c5 i (by omega)]; exact z.2 i hi⟩
            refine qP.of (L := [_, _, _, _, _, _]) (by omega) (hP _ rfl) ms_Desk_falseVote rfl ?_
            show qW X PR (d - 1) (some .int) cd_Desk_falseVote 0 _ _ _ _
            refine qW.blk rfl ?_
            refine qv_aload rfl ?_
            refine qv_gr ly_8 ⟨rfl, rfl, rfl⟩ (by omega) ?_
            refine qv_iload rfl ?_
            refine qv_virtE (ly_9.rcv _) sg_Chamber_treeAt rfl rfl (r_treeAt_y hP (by omega) hJ.1.2.2.2.1 h12 hk3 hT1) ?_
            refine qv_astore (L' := [_, _, _, _, _, _]) rfl ?_
            refine qv_aload rfl ?_
            refine qv_iload rfl ?_
            refine qv_virtE (ly_8.rcv _) sg_Desk_shelfAt rfl rfl (r_shelfAt_y hP (by omega) hl8) ?_
            refine qv_astore (L' := [_, _, _, _, _, _]) rfl ?_
            refine qv_aload rfl ?_
            refine qv_null_f (nx := 1) rfl ?_
            refine qW.blk rfl ?_
            refine qv_aload rfl ?_
            refine qv_nonnull_t (tgt := 3) rfl ?_
            refine qW.blk rfl ?_
            refine qv_aload rfl ?_
            refine qv_iconst (v := 3) rfl ?_
            refine qv_staticE sg_Desk_refusalOf rfl (r_bytesRefusal hP (by omega) hl8 c1 s1 (fun _ => c3) s2) ?_
            refine qv_istore (L' := [_, _, _, _, _, _]) rfl ?_
            refine qv_iload rfl ?_
            refine qv_if_eq_t (hr) (tgt := 5) rfl ?_
            refine qW.blk rfl ?_
            refine qv_aload rfl ?_
            refine qv_virt ((ly_sh (d := l) (by omega)).rcv _) sg_Shelf_holdsWishes rfl rfl (w_holdsWishes hP (by omega) hl8 c4 s3 ?_) 
            refine qv_if_ne_f (fun zq => zq (bI_f (hw'))) (nx := 6) rfl ?_
            refine qW.blk rfl ?_
            refine qv_iconst (v := (-13)) rfl ?_
            refine qv_iret (rfl) ?_
            exact hk s hJ (cfr.rf s)
          · intro s Q hJ hk
            have J1 := hJ.thr (v := 0)
            obtain ⟨c1, c2, -⟩ := J1.2.2.2.2.1 l hl8
            obtain ⟨c3, c4, c5⟩ := c2 h2
            have hr0 : refB (aS A l).1 (aS A l).2.1 = nI 0 := hr
            have fin := hk (uF s 163 0 0) J1 ((qfr.rf s).uF (by omega))
            refine qP.of (L := [_, _, _, _, _, _, _, _]) (by omega) (hP _ rfl) ms_Model_falseVote rfl ?_
            show qW X PR (d - 1) (some .int) cd_Model_falseVote 0 _ _ _ _
            by_cases h7 : (aS A l).2.2.1 = 7
            · have c4' : qE (uF s 163 0 0) 200 l = nI 7 := by rw [c4, h7]
              obtain ⟨i0, ⟨hi0, hbad⟩, hleast⟩ := pk_least (fun i => i < 7 ∧ ¬ (0 ≤ (aS A l).2.2.2.1 i ∧ (aS A l).2.2.2.1 i ≤ nI 9)) (by
                refine Classical.byContradiction fun z => hw ⟨h7, fun i hi => Classical.byContradiction fun q => z ⟨i, hi, q⟩⟩)
              have b14 : ∀ L6 L7 : Option Value, qW X PR (d - 1) (some .int) cd_Model_falseVote 14 [some (.ref (163)), some (.int (nI k)), some (.int (nI l)), some (.int 0), some (.int 1), some (.int (nI i0)), L6, L7] [.int 0] (uF s 163 0 0) Q := by
                intro L6 L7
                by_cases h6 : i0 + 1 = 7
                · refine qW.blk rfl ?_
                  refine qv_istore (L' := [_, _, _, _, _, _, _, _]) rfl ?_
                  refine qv_iinc (L' := [_, _, _, _, _, _, _, _]) rfl (nI_succ _).symm rfl ?_
                  refine qv_goto (tgt := 8) rfl ?_
                  refine qW.blk rfl ?_
                  refine qv_iload rfl ?_
                  refine qv_iconst (v := 7) rfl ?_
                  refine qv_icmp_geNt (q := 7) rfl rfl (by omega) (by omega) (by omega) (tgt := 15) rfl ?_
                  refine qW.blk rfl ?_
                  refine qv_iload rfl ?_
                  refine qv_if_ne_f (fun z => z rfl) (nx := 16) rfl ?_
                  refine qW.blk rfl ?_
                  refine qv_iconst (v := (-13)) rfl ?_
                  refine qv_iret (rfl) ?_
                  exact fin
                · refine qW.blk rfl ?_
                  refine qv_istore (L' := [_, _, _, _, _, _, _, _]) rfl ?_
                  refine qv_iinc (L' := [_, _, _, _, _, _, _, _]) rfl (nI_succ _).symm rfl ?_
                  refine qv_goto (tgt := 8) rfl ?_
                  refine qW.blk rfl ?_
                  refine qv_iload rfl ?_
                  refine qv_iconst (v := 7) rfl ?_
                  refine qv_icmp_geNf (q := 7) rfl rfl (by omega) (by omega) (by omega) (nx := 9) rfl ?_
                  refine qW.blk rfl ?_
                  refine qv_iload rfl ?_
                  refine qv_if_eq_t (rfl) (tgt := 15) rfl ?_
                  refine qW.blk rfl ?_
                  refine qv_iload rfl ?_
                  refine qv_if_ne_f (fun z => z rfl) (nx := 16) rfl ?_
                  refine qW.blk rfl ?_
                  refine qv_iconst (v := (-13)) rfl ?_
                  refine qv_iret (rfl) ?_
                  exact fin
              have loop1 : ∀ (c i : Nat), i + c = i0 → qW X PR (d - 1) (some .int) cd_Model_falseVote 8 [some (.ref (163)), some (.int (nI k)), some (.int (nI l)), some (.int 0), some (.int 1), some (.int (nI i)), none, none] [] (uF s 163 0 0) Q := by
                intro c
                induction c with
                | zero =>
                  intro i hi
                  have e : i = i0 := by omega
                  subst e
                  by_cases g1 : 0 ≤ (aS A l).2.2.2.1 i
                  · have g2 : ¬ (aS A l).2.2.2.1 i ≤ nI 9 := fun z => hbad ⟨g1, z⟩
                    have n1 : ¬ (lg_cmp ((aS A l).2.2.2.1 i).toInt64 0 < 0) := fun z => Int32.not_lt.mpr g1 ((lc0 _).mp z)
                    have n2 : 0 < lg_cmp ((aS A l).2.2.2.1 i).toInt64 9 := (lc9 _).mpr (Int32.not_le.mp g2)
                    refine qW.blk rfl ?_
                    refine qv_iload rfl ?_
                    refine qv_iconst (v := 7) rfl ?_
                    refine qv_icmp_geNf (q := 7) rfl rfl (by omega) (by omega) (by omega) (nx := 9) rfl ?_
                    refine qW.blk rfl ?_
                    refine qv_iload rfl ?_
                    refine qv_if_eq_f (by decide) (nx := 10) rfl ?_
                    refine qW.blk rfl ?_
                    refine qv_aload rfl ?_
                    refine qv_gr ly_163 ⟨rfl, rfl, rfl⟩ (by omega) ?_
                    refine qv_iconst (v := 120) rfl ?_
                    refine qv_iload rfl ?_
                    refine qv_imulN (p := 120) rfl rfl ?_
                    refine qv_iload rfl ?_
                    refine qv_iaddN rfl rfl ?_
                    refine qv_la ly_201 rfl (by omega) (by decide) (c5 i (by omega)) ?_
                    refine qv_lconst (v := 0) rfl ?_
                    refine qv_lcmp ?_
                    refine qv_if_lt_f (n1) (nx := 11) rfl ?_
                    refine qW.blk rfl ?_
                    refine qv_aload rfl ?_
                    refine qv_gr ly_163 ⟨rfl, rfl, rfl⟩ (by omega) ?_
                    refine qv_iconst (v := 120) rfl ?_
                    refine qv_iload rfl ?_
                    refine qv_imulN (p := 120) rfl rfl ?_
                    refine qv_iload rfl ?_
                    refine qv_iaddN rfl rfl ?_
                    refine qv_la ly_201 rfl (by omega) (by decide) (c5 i (by omega)) ?_
                    refine qv_lconst (v := 9) rfl ?_
                    refine qv_lcmp ?_
                    refine qv_if_gt_t (n2) (tgt := 13) rfl ?_
                    refine qW.blk rfl ?_
                    refine qv_iconst (v := 0) rfl ?_
                    refine qv_nil (nx := 14) rfl ?_
                    exact b14 _ _
                  · have n1 : lg_cmp ((aS A l).2.2.2.1 i).toInt64 0 < 0 := (lc0 _).mpr (Int32.not_le.mp g1)
                    refine qW.blk rfl ?_
                    refine qv_iload rfl ?_
                    refine qv_iconst (v := 7) rfl ?_
                    refine qv_icmp_geNf (q := 7) rfl rfl (by omega) (by omega) (by omega) (nx := 9) rfl ?_
                    refine qW.blk rfl ?_
                    refine qv_iload rfl ?_
                    refine qv_if_eq_f (by decide) (nx := 10) rfl ?_
                    refine qW.blk rfl ?_
                    refine qv_aload rfl ?_
                    refine qv_gr ly_163 ⟨rfl, rfl, rfl⟩ (by omega) ?_
                    refine qv_iconst (v := 120) rfl ?_
                    refine qv_iload rfl ?_
                    refine qv_imulN (p := 120) rfl rfl ?_
                    refine qv_iload rfl ?_
                    refine qv_iaddN rfl rfl ?_
                    refine qv_la ly_201 rfl (by omega) (by decide) (c5 i (by omega)) ?_
                    refine qv_lconst (v := 0) rfl ?_
                    refine qv_lcmp ?_
                    refine qv_if_lt_t (n1) (tgt := 13) rfl ?_
                    refine qW.blk rfl ?_
                    refine qv_iconst (v := 0) rfl ?_
                    refine qv_nil (nx := 14) rfl ?_
                    exact b14 _ _
                | succ c ih =>
                  intro i hi
                  obtain ⟨g1, g2⟩ : 0 ≤ (aS A l).2.2.2.1 i ∧ (aS A l).2.2.2.1 i ≤ nI 9 := Classical.byContradiction fun q => hleast i (by omega) ⟨by omega, q⟩
                  have n1 : ¬ (lg_cmp ((aS A l).2.2.2.1 i).toInt64 0 < 0) := fun z => Int32.not_lt.mpr g1 ((lc0 _).mp z)
                  have n2 : ¬ (0 < lg_cmp ((aS A l).2.2.2.1 i).toInt64 9) := fun z => Int32.not_lt.mpr g2 ((lc9 _).mp z)
                  refine qW.blk rfl ?_
                  refine qv_iload rfl ?_
                  refine qv_iconst (v := 7) rfl ?_
                  refine qv_icmp_geNf (q := 7) rfl rfl (by omega) (by omega) (by omega) (nx := 9) rfl ?_
                  refine qW.blk rfl ?_
                  refine qv_iload rfl ?_
                  refine qv_if_eq_f (by decide) (nx := 10) rfl ?_
                  refine qW.blk rfl ?_
                  refine qv_aload rfl ?_
                  refine qv_gr ly_163 ⟨rfl, rfl, rfl⟩ (by omega) ?_
                  refine qv_iconst (v := 120) rfl ?_
                  refine qv_iload rfl ?_
                  refine qv_imulN (p := 120) rfl rfl ?_
                  refine qv_iload rfl ?_
                  refine qv_iaddN rfl rfl ?_
                  refine qv_la ly_201 rfl (by omega) (by decide) (c5 i (by omega)) ?_
                  refine qv_lconst (v := 0) rfl ?_
                  refine qv_lcmp ?_
                  refine qv_if_lt_f (n1) (nx := 11) rfl ?_
                  refine qW.blk rfl ?_
                  refine qv_aload rfl ?_
                  refine qv_gr ly_163 ⟨rfl, rfl, rfl⟩ (by omega) ?_
                  refine qv_iconst (v := 120) rfl ?_
                  refine qv_iload rfl ?_
                  refine qv_imulN (p := 120) rfl rfl ?_
                  refine qv_iload rfl ?_
                  refine qv_iaddN rfl rfl ?_
                  refine qv_la ly_201 rfl (by omega) (by decide) (c5 i (by omega)) ?_
                  refine qv_lconst (v := 9) rfl ?_
                  refine qv_lcmp ?_
                  refine qv_if_gt_f (n2) (nx := 12) rfl ?_
                  refine qW.blk rfl ?_
                  refine qv_iconst (v := 1) rfl ?_
                  refine qv_goto (tgt := 14) rfl ?_
                  refine qW.blk rfl ?_
                  refine qv_istore (L' := [_, _, _, _, _, _, _, _]) rfl ?_
                  refine qv_iinc (L' := [_, _, _, _, _, _, _, _]) rfl (nI_succ _).symm rfl ?_
                  refine qv_goto (tgt := 8) rfl ?_
                  exact ih (i + 1) (by omega)
              refine qW.blk rfl ?_
              refine qv_aload rfl ?_
              refine qv_iconst (v := 0) rfl ?_
              refine qv_pi ly_163 ⟨rfl, rfl, rfl⟩ (rfl) ?_
              refine qv_aload rfl ?_
              refine qv_iload rfl ?_
              refine qv_virtE (ly_163.rcv _) sg_Model_isTree rfl rfl (r_M_isTree hP (by omega) (nI k) (J1.1 3 (by decide))) ?_
              refine qv_if_ne_t (bI_ne.mpr ((in_nI1 (by omega)).mpr ⟨k, hk3, rfl⟩)) (tgt := 2) rfl ?_
              refine qW.blk rfl ?_
              refine qv_aload rfl ?_
              refine qv_iload rfl ?_
              refine qv_virt (ly_163.rcv _) sg_Model_lacks rfl rfl (w_M_lacks hP (by omega) hl8 c1 s1 (fun _ => c3) s2 ?_) 
              refine qv_istore (L' := [_, _, _, _, _, _, _, _]) rfl ?_
              refine qv_iload rfl ?_
              refine qv_if_ge_t (by rw [hr0]; decide) (tgt := 4) rfl ?_
              refine qW.blk rfl ?_
              refine qv_aload rfl ?_
              refine qv_gr ly_163 ⟨rfl, rfl, rfl⟩ (by omega) ?_
              refine qv_iload rfl ?_
              refine qv_ia ly_200 rfl (by omega) (by decide) (c4') ?_
              refine qv_iconst (v := 7) rfl ?_
              refine qv_icmp_neNf (q := 7) rfl rfl (by omega) (by omega) (by omega) (nx := 5) rfl ?_
              refine qW.blk rfl ?_
              refine qv_iconst (v := 1) rfl ?_
              refine qv_goto (tgt := 7) rfl ?_
              refine qW.blk rfl ?_
              refine qv_istore (L' := [_, _, _, _, _, _, _, _]) rfl ?_
              refine qv_iconst (v := 0) rfl ?_
              refine qv_istore (L' := [_, _, _, _, _, _, _, _]) rfl ?_
              refine qv_nil (nx := 8) rfl ?_
              rw [hr]
              exact loop1 i0 0 (by omega)
            · refine qW.blk rfl ?_
              refine qv_aload rfl ?_
              refine qv_iconst (v := 0) rfl ?_
              refine qv_pi ly_163 ⟨rfl, rfl, rfl⟩ (rfl) ?_
              refine qv_aload rfl ?_
              refine qv_iload rfl ?_
              refine qv_virtE (ly_163.rcv _) sg_Model_isTree rfl rfl (r_M_isTree hP (by omega) (nI k) (J1.1 3 (by decide))) ?_
              refine qv_if_ne_t (bI_ne.mpr ((in_nI1 (by omega)).mpr ⟨k, hk3, rfl⟩)) (tgt := 2) rfl ?_
              refine qW.blk rfl ?_
              refine qv_aload rfl ?_
              refine qv_iload rfl ?_
              refine qv_virt (ly_163.rcv _) sg_Model_lacks rfl rfl (w_M_lacks hP (by omega) hl8 c1 s1 (fun _ => c3) s2 ?_) 
              refine qv_istore (L' := [_, _, _, _, _, _, _, _]) rfl ?_
              refine qv_iload rfl ?_
              refine qv_if_ge_t (by rw [hr0]; decide) (tgt := 4) rfl ?_
              refine qW.blk rfl ?_
              refine qv_aload rfl ?_
              refine qv_gr ly_163 ⟨rfl, rfl, rfl⟩ (by omega) ?_
              refine qv_iload rfl ?_
              refine qv_ia ly_200 rfl (by omega) (by decide) (c4) ?_
              refine qv_iconst (v := 7) rfl ?_
              refine qv_icmp_neNt (q := 7) rfl rfl (by omega) (by omega) (by omega) (tgt := 6) rfl ?_
              refine qW.blk rfl ?_
              refine qv_iconst (v := 0) rfl ?_
              refine qv_nil (nx := 7) rfl ?_
              refine qW.blk rfl ?_
              refine qv_istore (L' := [_, _, _, _, _, _, _, _]) rfl ?_
              refine qv_iconst (v := 0) rfl ?_
              refine qv_istore (L' := [_, _, _, _, _, _, _, _]) rfl ?_
              refine qv_nil (nx := 8) rfl ?_
              refine qW.blk rfl ?_
              refine qv_iload rfl ?_
              refine qv_iconst (v := 7) rfl ?_
              refine qv_icmp_geNf (p := 0) (q := 7) rfl rfl (by omega) (by omega) (by omega) (nx := 9) rfl ?_
              refine qW.blk rfl ?_
              refine qv_iload rfl ?_
              refine qv_if_eq_t (rfl) (tgt := 15) rfl ?_
              refine qW.blk rfl ?_
              refine qv_iload rfl ?_
              refine qv_if_ne_f (fun z => z rfl) (nx := 16) rfl ?_
              refine qW.blk rfl ?_
              refine qv_iconst (v := (-13)) rfl ?_
              refine qv_iret (rfl) ?_
              exact fin
      · have hneg : refB (aS A l).1 (aS A l).2.1 = -11 ∨ refB (aS A l).1 (aS A l).2.1 = -12 := by
          unfold refB refU at hr ⊢
          split
          · exact Or.inr rfl
          · split
            · exact Or.inl rfl
            · rename_i x1 x2
              rw [if_neg x1, if_neg x2] at hr
              split
              · rename_i x3; rw [if_pos x3] at hr; exact absurd rfl hr
              · exact Or.inr rfl
        have hlt : ¬ 0 ≤ refB (aS A l).1 (aS A l).2.1 := by rcases hneg with e | e <;> rw [e] <;> decide
        refine ⟨.int (refB (aS A l).1 (aS A l).2.1), A, hA, ?_, ?_⟩
        · intro s Q hJ hk
          obtain ⟨T, hT1, hT2⟩ := hJ.2.2.2.1 k hk3
          obtain ⟨c1, c2, -⟩ := hJ.2.2.2.2 l hl8
          refine qP.of (L := [_, _, _, _, _, _]) (by omega) (hP _ rfl) ms_Desk_falseVote rfl ?_
          show qW X PR (d - 1) (some .int) cd_Desk_falseVote 0 _ _ _ _
          refine qW.blk rfl ?_
          refine qv_aload rfl ?_
          refine qv_gr ly_8 ⟨rfl, rfl, rfl⟩ (by omega) ?_
          refine qv_iload rfl ?_
          refine qv_virtE (ly_9.rcv _) sg_Chamber_treeAt rfl rfl (r_treeAt_y hP (by omega) hJ.1.2.2.2.1 h12 hk3 hT1) ?_
          refine qv_astore (L' := [_, _, _, _, _, _]) rfl ?_
          refine qv_aload rfl ?_
          refine qv_iload rfl ?_
          refine qv_virtE (ly_8.rcv _) sg_Desk_shelfAt rfl rfl (r_shelfAt_y hP (by omega) hl8) ?_
          refine qv_astore (L' := [_, _, _, _, _, _]) rfl ?_
          refine qv_aload rfl ?_
          refine qv_null_f (nx := 1) rfl ?_
          refine qW.blk rfl ?_
          refine qv_aload rfl ?_
          refine qv_nonnull_t (tgt := 3) rfl ?_
          refine qW.blk rfl ?_
          refine qv_aload rfl ?_
          refine qv_iconst (v := 3) rfl ?_
          refine qv_staticE sg_Desk_refusalOf rfl (r_bytesRefusal hP (by omega) hl8 c1 s1 (fun z => (c2 z).1) s2) ?_
          refine qv_istore (L' := [_, _, _, _, _, _]) rfl ?_
          refine qv_iload rfl ?_
          refine qv_if_eq_f (hr) (nx := 4) rfl ?_
          refine qW.blk rfl ?_
          refine qv_iload rfl ?_
          refine qv_iret (rfl) ?_
          exact hk s hJ (cfr.rf s)
        · intro s Q hJ hk
          have J1 := hJ.thr (v := 0)
          obtain ⟨c1, c2, -⟩ := J1.2.2.2.2.1 l hl8
          refine qP.of (L := [_, _, _, _, _, _, _, _]) (by omega) (hP _ rfl) ms_Model_falseVote rfl ?_
          show qW X PR (d - 1) (some .int) cd_Model_falseVote 0 _ _ _ _
          refine qW.blk rfl ?_
          refine qv_aload rfl ?_
          refine qv_iconst (v := 0) rfl ?_
          refine qv_pi ly_163 ⟨rfl, rfl, rfl⟩ (rfl) ?_
          refine qv_aload rfl ?_
          refine qv_iload rfl ?_
          refine qv_virtE (ly_163.rcv _) sg_Model_isTree rfl rfl (r_M_isTree hP (by omega) (nI k) (J1.1 3 (by decide))) ?_
          refine qv_if_ne_t (bI_ne.mpr ((in_nI1 (by omega)).mpr ⟨k, hk3, rfl⟩)) (tgt := 2) rfl ?_
          refine qW.blk rfl ?_
          refine qv_aload rfl ?_
          refine qv_iload rfl ?_
          refine qv_virt (ly_163.rcv _) sg_Model_lacks rfl rfl (w_M_lacks hP (by omega) hl8 c1 s1 (fun z => (c2 z).1) s2 ?_) 
          refine qv_istore (L' := [_, _, _, _, _, _, _, _]) rfl ?_
          refine qv_iload rfl ?_
          refine qv_if_ge_f (hlt) (nx := 3) rfl ?_
          refine qW.blk rfl ?_
          refine qv_iload rfl ?_
          refine qv_iret (rfl) ?_
          exact hk (uF s 163 0 0) J1 ((qfr.rf s).uF (by omega))
    · refine ⟨.int (-1), A, hA, ?_, ?_⟩
      · intro s Q hJ hk
        obtain ⟨T, hT1, hT2⟩ := hJ.2.2.2.1 k hk3
        refine qP.of (L := [_, _, _, _, _, _]) (by omega) (hP _ rfl) ms_Desk_falseVote rfl ?_
        show qW X PR (d - 1) (some .int) cd_Desk_falseVote 0 _ _ _ _
        refine qW.blk rfl ?_
        refine qv_aload rfl ?_
        refine qv_gr ly_8 ⟨rfl, rfl, rfl⟩ (by omega) ?_
        refine qv_iload rfl ?_
        refine qv_virtE (ly_9.rcv _) sg_Chamber_treeAt rfl rfl (r_treeAt_y hP (by omega) hJ.1.2.2.2.1 h12 hk3 hT1) ?_
        refine qv_astore (L' := [_, _, _, _, _, _]) rfl ?_
        refine qv_aload rfl ?_
        refine qv_iload rfl ?_
        refine qv_virtE (ly_8.rcv _) sg_Desk_shelfAt rfl rfl (r_shelfAt_n hP (by omega) hnb) ?_
        refine qv_astoreN (L' := [_, _, _, _, _, _]) rfl ?_
        refine qv_aload rfl ?_
        refine qv_null_f (nx := 1) rfl ?_
        refine qW.blk rfl ?_
        refine qv_aloadN rfl ?_
        refine qv_nonnull_f (nx := 2) rfl ?_
        refine qW.blk rfl ?_
        refine qv_iconst (v := (-1)) rfl ?_
        refine qv_iret (rfl) ?_
        exact hk s hJ (cfr.rf s)
      · intro s Q hJ hk
        have J1 := hJ.thr (v := 0)
        have w : ∀ (d : Nat) (Q : QPost), 2 ≤ d → Q (some (.int (-1))) (uF s 163 0 0) → qP X PR d 178 [.ref 163, .int b] (uF s 163 0 0) Q := by
          intro d Q hd hk
          refine qP.of (L := [_, _]) (by omega) (hP _ rfl) ms_Model_lacks rfl ?_
          show qW X PR (d - 1) (some .int) cd_Model_lacks 0 _ _ _ _
          refine qW.blk rfl ?_
          refine qv_iload rfl ?_
          refine qv_iconst (v := 0) rfl ?_
          refine qv_iconst (v := 7) rfl ?_
          refine qv_staticE sg_Model_in rfl (r_Model_in hP (by omega) b 0 (nI 7) _) ?_
          refine qv_if_ne_f (fun zq => zq (bI_f (not7 hnb))) (nx := 1) rfl ?_
          refine qW.blk rfl ?_
          refine qv_iconst (v := (-1)) rfl ?_
          refine qv_iret (rfl) ?_
          exact hk
        refine qP.of (L := [_, _, _, _, _, _, _, _]) (by omega) (hP _ rfl) ms_Model_falseVote rfl ?_
        show qW X PR (d - 1) (some .int) cd_Model_falseVote 0 _ _ _ _
        refine qW.blk rfl ?_
        refine qv_aload rfl ?_
        refine qv_iconst (v := 0) rfl ?_
        refine qv_pi ly_163 ⟨rfl, rfl, rfl⟩ (rfl) ?_
        refine qv_aload rfl ?_
        refine qv_iload rfl ?_
        refine qv_virtE (ly_163.rcv _) sg_Model_isTree rfl rfl (r_M_isTree hP (by omega) (nI k) (J1.1 3 (by decide))) ?_
        refine qv_if_ne_t (bI_ne.mpr ((in_nI1 (by omega)).mpr ⟨k, hk3, rfl⟩)) (tgt := 2) rfl ?_
        refine qW.blk rfl ?_
        refine qv_aload rfl ?_
        refine qv_iload rfl ?_
        refine qv_virt (ly_163.rcv _) sg_Model_lacks rfl rfl (w _ _ (by omega) ?_) 
        refine qv_istore (L' := [_, _, _, _, _, _, _, _]) rfl ?_
        refine qv_iload rfl ?_
        refine qv_if_ge_f (by decide) (nx := 3) rfl ?_
        refine qW.blk rfl ?_
        refine qv_iload rfl ?_
        refine qv_iret (rfl) ?_
        exact hk (uF s 163 0 0) J1 ((qfr.rf s).uF (by omega))
  · refine ⟨.int (-1), A, hA, ?_, ?_⟩
    · intro s Q hJ hk
      refine qP.of (L := [_, _, _, _, _, _]) (by omega) (hP _ rfl) ms_Desk_falseVote rfl ?_
      show qW X PR (d - 1) (some .int) cd_Desk_falseVote 0 _ _ _ _
      rcases pl_of b 8 with ⟨l, hl8, rfl⟩ | hnb
      · refine qW.blk rfl ?_
        refine qv_aload rfl ?_
        refine qv_gr ly_8 ⟨rfl, rfl, rfl⟩ (by omega) ?_
        refine qv_iload rfl ?_
        refine qv_virtE (ly_9.rcv _) sg_Chamber_treeAt rfl rfl (r_treeAt_n hP (by omega) hJ.1.2.2.2.1 h12 hn) ?_
        refine qv_astoreN (L' := [_, _, _, _, _, _]) rfl ?_
        refine qv_aload rfl ?_
        refine qv_iload rfl ?_
        refine qv_virtE (ly_8.rcv _) sg_Desk_shelfAt rfl rfl (r_shelfAt_y hP (by omega) hl8) ?_
        refine qv_astore (L' := [_, _, _, _, _, _]) rfl ?_
        refine qv_aloadN rfl ?_
        refine qv_null_t (tgt := 2) rfl ?_
        refine qW.blk rfl ?_
        refine qv_iconst (v := (-1)) rfl ?_
        refine qv_iret (rfl) ?_
        exact hk s hJ (cfr.rf s)
      · refine qW.blk rfl ?_
        refine qv_aload rfl ?_
        refine qv_gr ly_8 ⟨rfl, rfl, rfl⟩ (by omega) ?_
        refine qv_iload rfl ?_
        refine qv_virtE (ly_9.rcv _) sg_Chamber_treeAt rfl rfl (r_treeAt_n hP (by omega) hJ.1.2.2.2.1 h12 hn) ?_
        refine qv_astoreN (L' := [_, _, _, _, _, _]) rfl ?_
        refine qv_aload rfl ?_
        refine qv_iload rfl ?_
        refine qv_virtE (ly_8.rcv _) sg_Desk_shelfAt rfl rfl (r_shelfAt_n hP (by omega) hnb) ?_
        refine qv_astoreN (L' := [_, _, _, _, _, _]) rfl ?_
        refine qv_aloadN rfl ?_
        refine qv_null_t (tgt := 2) rfl ?_
        refine qW.blk rfl ?_
        refine qv_iconst (v := (-1)) rfl ?_
        refine qv_iret (rfl) ?_
        exact hk s hJ (cfr.rf s)
    · intro s Q hJ hk
      have J1 := hJ.thr (v := 0)
      refine qP.of (L := [_, _, _, _, _, _, _, _]) (by omega) (hP _ rfl) ms_Model_falseVote rfl ?_
      show qW X PR (d - 1) (some .int) cd_Model_falseVote 0 _ _ _ _
      refine qW.blk rfl ?_
      refine qv_aload rfl ?_
      refine qv_iconst (v := 0) rfl ?_
      refine qv_pi ly_163 ⟨rfl, rfl, rfl⟩ (rfl) ?_
      refine qv_aload rfl ?_
      refine qv_iload rfl ?_
      refine qv_virtE (ly_163.rcv _) sg_Model_isTree rfl rfl (r_M_isTree hP (by omega) t (J1.1 3 (by decide))) ?_
      refine qv_if_ne_f (fun zq => zq (bI_f (fun z => hn ((in_nI1 (by omega)).mp z)))) (nx := 1) rfl ?_
      refine qW.blk rfl ?_
      refine qv_iconst (v := (-1)) rfl ?_
      refine qv_iret (rfl) ?_
      exact hk (uF s 163 0 0) J1 ((qfr.rf s).uF (by omega))
end
