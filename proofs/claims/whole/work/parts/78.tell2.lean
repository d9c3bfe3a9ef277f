/-! tell, boughtOff are alike, the rest -/
theorem best_no {P : Nat → Prop} {n b : Nat} (h : isBest P n b) (hn : ¬ P n) : isBest P (n + 1) b := ⟨by have := h.1; omega, h.2.1, fun x hx hp => by
  rcases Nat.lt_or_ge x n with q | q
  · exact h.2.2 x q hp
  · rw [show x = n by omega] at hp; exact absurd hp hn⟩
theorem best_keep {P : Nat → Prop} {n b : Nat} (h : isBest P n b) (hn : pc b ≤ pc n) : isBest P (n + 1) b := ⟨by have := h.1; omega, h.2.1, fun x hx hp => by
  rcases Nat.lt_or_ge x n with q | q
  · exact h.2.2 x q hp
  · have e : x = n := by omega
    subst e
    have := h.1
    omega⟩
theorem best_new1 {P : Nat → Prop} {n : Nat} (h : ∀ y, y < n → ¬ P y) (hp : P n) : isBest P (n + 1) n := ⟨by omega, hp, fun x hx hpx => by
  rcases Nat.lt_or_ge x n with q | q
  · exact absurd hpx (h x q)
  · rw [show x = n by omega]; exact Or.inr ⟨rfl, Nat.le_refl _⟩⟩
theorem best_new2 {P : Nat → Prop} {n b : Nat} (h : isBest P n b) (hp : P n) (hlt : pc n < pc b) : isBest P (n + 1) n := ⟨by omega, hp, fun x hx hpx => by
  rcases Nat.lt_or_ge x n with q | q
  · rcases h.2.2 x q hpx with r | r <;> omega
  · rw [show x = n by omega]; exact Or.inr ⟨rfl, Nat.le_refl _⟩⟩
/-- the best so far -/
def bsf (P : Nat → Prop) (n : Nat) (f : Int32) : Prop := ((∀ y, y < n → ¬ P y) ∧ f = -4) ∨ ∃ b, isBest P n b ∧ f = nI b
theorem bsf_no {P : Nat → Prop} {n : Nat} {f : Int32} (h : bsf P n f) (hn : ¬ P n) : bsf P (n + 1) f := by
  rcases h with ⟨h1, h2⟩ | ⟨b, h1, h2⟩
  · refine Or.inl ⟨fun y hy hp => ?_, h2⟩
    rcases Nat.lt_or_ge y n with q | q
    · exact h1 y q hp
    · rw [show y = n by omega] at hp; exact hn hp
  · exact Or.inr ⟨b, best_no h1 hn, h2⟩
theorem bsf_fun {P : Nat → Prop} {n : Nat} {f g : Int32} (h : bsf P n f) (h' : bsf P n g) : f = g := by
  rcases h with ⟨h1, h2⟩ | ⟨b, ⟨b1, b2, b3⟩, h2⟩
  · rcases h' with ⟨k1, k2⟩ | ⟨c, ⟨c1, c2, c3⟩, k2⟩
    · rw [h2, k2]
    · exact absurd c2 (h1 c c1)
  · rcases h' with ⟨k1, k2⟩ | ⟨c, ⟨c1, c2, c3⟩, k2⟩
    · exact absurd b2 (k1 b b1)
    · have e : b = c := by
        have x1 := b3 c c1 c2
        have x2 := c3 b b1 b2
        omega
      rw [h2, k2, e]
theorem bsf_ex (P : Nat → Prop) (n : Nat) : ∃ f, bsf P n f := by
  rcases best_ex P n with h | ⟨b, h⟩
  · exact ⟨-4, Or.inl ⟨h, rfl⟩⟩
  · exact ⟨nI b, Or.inr ⟨b, h, rfl⟩⟩
theorem bsf_ext {P P' : Nat → Prop} {n m : Nat} {f : Int32} (h : bsf P n f) (hle : n ≤ m) (e1 : ∀ x, x < n → (P' x ↔ P x)) (e2 : ∀ x, P' x → x < n) : bsf P' m f := by
  rcases h with ⟨h1, h2⟩ | ⟨b, ⟨b1, b2, b3⟩, h2⟩
  · exact Or.inl ⟨fun y hy hp => h1 y (e2 y hp) ((e1 y (e2 y hp)).mp hp), h2⟩
  · exact Or.inr ⟨b, ⟨by omega, (e1 b b1).mpr b2, fun x hx hp => b3 x (e2 x hp) ((e1 x (e2 x hp)).mp hp)⟩, h2⟩
theorem nI_nneg {n : Nat} (h : n < 2 ^ 31) : ¬ nI n < 0 := nI_pos h
section
variable {X : pm_X} {PR : pm_P}
theorem Sim_tell (hP : pm_np PR) (t y : Int32) : Sim X PR 142 232 [.int t, .int y] := by
  intro d A hd hA
  have hC := hA.1
  have hM := hC.2.2.2.1
  have h12 := hC.2.2.2.2.1
  by_cases hv : (∃ k, k < aC A 3 ∧ t = nI k) ∧ ∃ x, x ≤ 6 ∧ y = nI x
  · obtain ⟨⟨k, hk3, rfl⟩, e, he, rfl⟩ := hv
    have hD := hA.2.2.2.1 k hk3
    have hK0 := hD.1
    have ie : nI 0 ≤ nI e ∧ nI e ≤ nI 6 := (w_iff (by omega) (by omega) (by omega)).mpr ⟨by omega, he⟩
    obtain ⟨hdec⟩ : Nonempty (∀ m, Decidable (aC A (10 + m) = 0)) := ⟨fun m => inferInstance⟩
    obtain ⟨al, hal⟩ : ∃ al, bsN (fun m => aC A (10 + m) = 0) (aC A 2) = al := ⟨_, rfl⟩
    have hp9 := pow9 (aC A 2) (by omega)
    have hal2 : al < 2 ^ (aC A 2) := by rw [← hal]; exact bsN_lt _
    obtain ⟨P, hPd⟩ : ∃ P : Nat → Prop, ∀ x, P x ↔ (subI x al ∧ (gval (wDeep (cvw (aC A)) x) (aT A k).2.1 ((aT A k).2.2.2.1 - 1)).2.1 = e) := ⟨_, fun _ => Iff.rfl⟩
    have hPlt : ∀ x, x < 512 → P x → x < 2 ^ (aC A 2) := fun x hx hp => by
      have := subI_le (x := x) (y := al) (by omega) (by omega) ((hPd x).mp hp).1
      omega
    have heq : ∀ x, (gval (wMk (cvw (aC A)) x 1 e) (aT A k).2.1 ((aT A k).2.2.2.1 - 1)).2.1 = (gval (wDeep (cvw (aC A)) x) (aT A k).2.1 ((aT A k).2.2.2.1 - 1)).2.1 := fun x =>
      ((gval_ve (veq_deep (x := x) (e := e)) (wDeep_u (cvw_ok5 hC).u) hD.2.2.2.1 ((aT A k).2.2.2.1 - 1) (by omega)).1.2.1).symm
    have hgl := fun x => (gval_ve (veq.rf (wDeep (cvw (aC A)) x)) (wDeep_u (cvw_ok5 hC).u) hD.2.2.2.1 ((aT A k).2.2.2.1 - 1) (by omega)).2.2.1
    obtain ⟨f, hf⟩ := bsf_ex P (2 ^ (aC A 2))
    refine ⟨.int f, A, hA, ?_, ?_⟩
    · intro s Q hJ hk
      obtain ⟨T, hT1, hT2⟩ := hJ.2.2.2.1 k hk3
      have hr : bsf (fun x => subI x al ∧ (gval (wMk (cvw (aC A)) x 1 e) (aT A k).2.1 ((aT A k).2.2.2.1 - 1)).2.1 = e) 512 f := by
        have h1 : bsf (fun x => x < 512 ∧ P x) 512 f := bsf_ext hf (by omega) (fun x hx => ⟨fun z => z.2, fun z => ⟨by omega, z⟩⟩) (fun x z => hPlt x z.1 z.2)
        rcases h1 with ⟨g1, g2⟩ | ⟨b, ⟨g1, g2, g3⟩, g4⟩
        · exact Or.inl ⟨fun x hx z => g1 x hx ⟨hx, (hPd x).mpr ⟨z.1, by rw [← heq]; exact z.2⟩⟩, g2⟩
        · have hb := (hPd b).mp g2.2
          exact Or.inr ⟨b, ⟨g1, ⟨hb.1, by rw [heq]; exact hb.2⟩, fun x hx z => g3 x hx ⟨hx, (hPd x).mpr ⟨z.1, by rw [← heq]; exact z.2⟩⟩⟩, g4⟩
      subst hal
      refine qP.of (L := [_, _, _, _]) (by omega) (hP _ rfl) ms_Desk_tell rfl ?_
      show qW X PR (d - 1) (some .int) cd_Desk_tell 0 _ _ _ _
      refine qW.blk rfl ?_
      refine qv_aload rfl ?_
      refine qv_gr ly_8 ⟨rfl, rfl, rfl⟩ (by omega) ?_
      refine qv_iload rfl ?_
      refine qv_virtE (ly_9.rcv _) sg_Chamber_treeAt rfl rfl (r_treeAt_y hP (by omega) hJ.1.2.2.2.1 h12 hk3 hT1) ?_
      refine qv_astore (L' := [_, _, _, _]) rfl ?_
      refine qv_aload rfl ?_
      refine qv_null_f (nx := 1) rfl ?_
      refine qW.blk rfl ?_
      refine qv_iload rfl ?_
      refine qv_staticE sg_Desk_isEnd rfl (r_Desk_isEnd hP (by omega) (nI e) _) ?_
      refine qv_if_ne_t (bI_ne.mpr (ie)) (tgt := 3) rfl ?_
      refine qW.blk rfl ?_
      refine qv_aload rfl ?_
      refine qv_gr ly_8 ⟨rfl, rfl, rfl⟩ (by omega) ?_
      refine qv_aload rfl ?_
      refine qv_gr ly_8 ⟨rfl, rfl, rfl⟩ (by omega) ?_
      refine qv_virt (ly_115.rcv _) sg_Plots_plainOnes rfl rfl (w_plainOnes hP (by omega) hJ.1 hC ?_) 
      refine qv_iconst (v := 1) rfl ?_
      refine qv_aload rfl ?_
      refine qv_iload rfl ?_
      refine qv_virt (ly_115.rcv _) sg_Plots_fewestOf rfl rfl (w_fewestOf hP (by omega) hJ.1 hC hD hT2 (k := 1) (Or.inl rfl) (by omega) (by omega) hr (fun s2 F2 => ?_)) 
      refine qv_iret (rfl) ?_
      exact hk s2 (hJ.fr hA F2 (by omega)) (F2.c (by omega) (by omega))
    · intro s Q hJ hk
      have J1 := hJ.thr (v := 0)
      refine qP.of (L := [_, _, _, _, _, _]) (by omega) (hP _ rfl) ms_Model_tell rfl ?_
      show qW X PR (d - 1) (some .int) cd_Model_tell 0 _ _ _ _
      have fin : ∀ s1, kfr 29 (uF s 163 0 0) s1 → Q (some (.int f)) (uF s1 163 29 0) := by
        intro s1 F1
        have F := (F1.sF (k := 29) (v := 0) (by omega)).done (by rw [qF_uFs]; exact J1.2.2.2.2.2.2.1.symm)
        exact hk _ (J1.fr F) (((qfr.rf s).uF (by omega)).trans F.1)
      have loopB : ∀ (c x : Nat) (g : Int32) (s1 : QST), x + c = 2 ^ (aC A 2) → bsf P x g → kfr 29 (uF s 163 0 0) s1 → qW X PR (d - 1) (some .int) cd_Model_tell 10 [some (.ref (163)), some (.int (nI k)), some (.int (nI e)), some (.int (nI al)), some (.int (g)), some (.int (nI x))] [] s1 Q := by
        intro c
        induction c with
        | zero =>
          intro x g s1 hx hg F1
          have ex : x = 2 ^ (aC A 2) := by omega
          have eg := bsf_fun (by rw [← ex]; exact hg) hf
          subst eg
          have K1 := J1.k F1
          refine qW.blk rfl ?_
          refine qv_iload rfl ?_
          refine qv_iconst (v := 1) rfl ?_
          refine qv_aload rfl ?_
          refine qv_gr ly_163 ⟨rfl, rfl, rfl⟩ (by omega) ?_
          refine qv_iconst (v := 2) rfl ?_
          refine qv_ia (j := 2) ly_164 rfl (by omega) (by decide) (K1.1 2 (by decide)) ?_
          refine qv_ishl ?_
          refine qv_icmp_ge_t (by rw [hp9.1]; exact nI_le (by omega) (by omega)) (tgt := 19) rfl ?_
          refine qW.blk rfl ?_
          refine qv_aload rfl ?_
          refine qv_iconst (v := 0) rfl ?_
          refine qv_pi ly_163 ⟨rfl, rfl, rfl⟩ (rfl) ?_
          refine qv_iload rfl ?_
          refine qv_iret (rfl) ?_
          exact fin s1 F1
        | succ c ih =>
          intro x g s1 hx hg F1
          have K1 := J1.k F1
          have h10 : ¬ (1 <<< (nI (aC A 2) &&& 31) : Int32) ≤ nI x := by rw [hp9.1]; exact nI_ge (by omega) (by omega)
          have nx : ∀ g' s2, bsf P (x + 1) g' → kfr 29 (uF s 163 0 0) s2 → qW X PR (d - 1) (some .int) cd_Model_tell 18 [some (.ref (163)), some (.int (nI k)), some (.int (nI e)), some (.int (nI al)), some (.int (g')), some (.int (nI x))] [] s2 Q := by
            intro g' s2 hg' F2
            refine qW.blk rfl ?_
            refine qv_iinc (L' := [_, _, _, _, _, _]) rfl (nI_succ _).symm rfl ?_
            refine qv_goto (tgt := 10) rfl ?_
            exact ih (x + 1) g' s2 (by omega) hg' F2
          have ev : ∀ (g : Int32), subI x al → bsf P x g → (P x → bsf P (x + 1) (nI x)) → qW X PR (d - 1) (some .int) cd_Model_tell 14 [some (.ref (163)), some (.int (nI k)), some (.int (nI e)), some (.int (nI al)), some (.int (g)), some (.int (nI x))] [] s1 Q := by
            intro g h1 hg hnew
            have F2 := F1.sF (k := 29) (v := nI x) (by omega)
            have K2 := J1.k F2
            have rv := rview_deep K2.1 hC K2.2.2 (x := x) (by omega) qF_uFs
            have hl := hgl x
            by_cases h2 : (gval (wDeep (cvw (aC A)) x) (aT A k).2.1 ((aT A k).2.2.2.1 - 1)).2.1 = e
            · refine qW.blk rfl ?_
              refine qv_aload rfl ?_
              refine qv_iload rfl ?_
              refine qv_pi ly_163 ⟨rfl, rfl, rfl⟩ (rfl) ?_
              refine qv_aload rfl ?_
              refine qv_iload rfl ?_
              refine qv_virt (ly_163.rcv _) sg_Model_endOf rfl rfl (w_M_endOf hP (by omega) rv (by omega) hD (K2.2.1 k hk3) (fun s3 F3 k1 k2 k3 => ?_)) 
              refine qv_iload rfl ?_
              refine qv_icmp_neNf rfl rfl (by omega) (by omega) (by omega) (nx := 15) rfl ?_
              refine qW.blk rfl ?_
              refine qv_iload rfl ?_
              refine qv_goto (tgt := 17) rfl ?_
              refine qW.blk rfl ?_
              refine qv_istore (L' := [_, _, _, _, _, _]) rfl ?_
              refine qv_nil (nx := 18) rfl ?_
              exact nx (nI x) s3 (hnew ((hPd x).mpr ⟨h1, h2⟩)) (F2.e F3)
            · refine qW.blk rfl ?_
              refine qv_aload rfl ?_
              refine qv_iload rfl ?_
              refine qv_pi ly_163 ⟨rfl, rfl, rfl⟩ (rfl) ?_
              refine qv_aload rfl ?_
              refine qv_iload rfl ?_
              refine qv_virt (ly_163.rcv _) sg_Model_endOf rfl rfl (w_M_endOf hP (by omega) rv (by omega) hD (K2.2.1 k hk3) (fun s3 F3 k1 k2 k3 => ?_)) 
              refine qv_iload rfl ?_
              refine qv_icmp_neNt rfl rfl (by omega) (by omega) (by omega) (tgt := 16) rfl ?_
              refine qW.blk rfl ?_
              refine qv_iload rfl ?_
              refine qv_nil (nx := 17) rfl ?_
              refine qW.blk rfl ?_
              refine qv_istore (L' := [_, _, _, _, _, _]) rfl ?_
              refine qv_nil (nx := 18) rfl ?_
              exact nx g s3 (bsf_no hg (fun z => h2 ((hPd x).mp z).2)) (F2.e F3)
          by_cases h1 : subI x al
          · rcases hg with ⟨g1, rfl⟩ | ⟨b, hb, rfl⟩
            · refine qW.blk rfl ?_
              refine qv_iload rfl ?_
              refine qv_iconst (v := 1) rfl ?_
              refine qv_aload rfl ?_
              refine qv_gr ly_163 ⟨rfl, rfl, rfl⟩ (by omega) ?_
              refine qv_iconst (v := 2) rfl ?_
              refine qv_ia (j := 2) ly_164 rfl (by omega) (by decide) (K1.1 2 (by decide)) ?_
              refine qv_ishl ?_
              refine qv_icmp_ge_f (h10) (nx := 11) rfl ?_
              refine qW.blk rfl ?_
              refine qv_iload rfl ?_
              refine qv_iload rfl ?_
              refine qv_iconst (v := (-1)) rfl ?_
              refine qv_ixor ?_
              refine qv_iand ?_
              refine qv_if_ne_f (fun z => z h1) (nx := 12) rfl ?_
              refine qW.blk rfl ?_
              refine qv_iload rfl ?_
              refine qv_if_lt_t (by decide) (tgt := 14) rfl ?_
              exact ev _ h1 (Or.inl ⟨g1, rfl⟩) (fun hp => Or.inr ⟨x, best_new1 g1 hp, rfl⟩)
            · have hb1 := hb.1
              have b13 : qW X PR (d - 1) (some .int) cd_Model_tell 10 [some (.ref (163)), some (.int (nI k)), some (.int (nI e)), some (.int (nI al)), some (.int (nI b)), some (.int (nI x))] [] s1 Q := by
                have hpx : ∀ z, pc z ≤ 10 := fun z => by
                  have : ∀ m, sumN (fun i => z / 2 ^ i % 2) m ≤ m := by
                    intro m
                    induction m with
                    | zero => exact Nat.le_refl _
                    | succ m ih => show sumN (fun i => z / 2 ^ i % 2) m + z / 2 ^ m % 2 ≤ m + 1; omega
                  exact this 10
                have hpx1 := hpx x
                have hpx2 := hpx b
                by_cases hlt : pc x < pc b
                · refine qW.blk rfl ?_
                  refine qv_iload rfl ?_
                  refine qv_iconst (v := 1) rfl ?_
                  refine qv_aload rfl ?_
                  refine qv_gr ly_163 ⟨rfl, rfl, rfl⟩ (by omega) ?_
                  refine qv_iconst (v := 2) rfl ?_
                  refine qv_ia (j := 2) ly_164 rfl (by omega) (by decide) (K1.1 2 (by decide)) ?_
                  refine qv_ishl ?_
                  refine qv_icmp_ge_f (h10) (nx := 11) rfl ?_
                  refine qW.blk rfl ?_
                  refine qv_iload rfl ?_
                  refine qv_iload rfl ?_
                  refine qv_iconst (v := (-1)) rfl ?_
                  refine qv_ixor ?_
                  refine qv_iand ?_
                  refine qv_if_ne_f (fun z => z h1) (nx := 12) rfl ?_
                  refine qW.blk rfl ?_
                  refine qv_iload rfl ?_
                  refine qv_if_ltNf rfl (by omega) (by omega) (nx := 13) rfl ?_
                  refine qW.blk rfl ?_
                  refine qv_iload rfl ?_
                  refine qv_static sg_Model_ones rfl (w_M_ones hP (by omega) (by omega) ?_) 
                  refine qv_iload rfl ?_
                  refine qv_static sg_Model_ones rfl (w_M_ones hP (by omega) (by omega) ?_) 
                  refine qv_icmp_geNf rfl rfl (by omega) (by omega) (by omega) (nx := 14) rfl ?_
                  exact ev _ h1 (Or.inr ⟨b, hb, rfl⟩) (fun hp => Or.inr ⟨x, best_new2 hb hp hlt, rfl⟩)
                · refine qW.blk rfl ?_
                  refine qv_iload rfl ?_
                  refine qv_iconst (v := 1) rfl ?_
                  refine qv_aload rfl ?_
                  refine qv_gr ly_163 ⟨rfl, rfl, rfl⟩ (by omega) ?_
                  refine qv_iconst (v := 2) rfl ?_
                  refine qv_ia (j := 2) ly_164 rfl (by omega) (by decide) (K1.1 2 (by decide)) ?_
                  refine qv_ishl ?_
                  refine qv_icmp_ge_f (h10) (nx := 11) rfl ?_
                  refine qW.blk rfl ?_
                  refine qv_iload rfl ?_
                  refine qv_iload rfl ?_
                  refine qv_iconst (v := (-1)) rfl ?_
                  refine qv_ixor ?_
                  refine qv_iand ?_
                  refine qv_if_ne_f (fun z => z h1) (nx := 12) rfl ?_
                  refine qW.blk rfl ?_
                  refine qv_iload rfl ?_
                  refine qv_if_ltNf rfl (by omega) (by omega) (nx := 13) rfl ?_
                  refine qW.blk rfl ?_
                  refine qv_iload rfl ?_
                  refine qv_static sg_Model_ones rfl (w_M_ones hP (by omega) (by omega) ?_) 
                  refine qv_iload rfl ?_
                  refine qv_static sg_Model_ones rfl (w_M_ones hP (by omega) (by omega) ?_) 
                  refine qv_icmp_geNt rfl rfl (by omega) (by omega) (by omega) (tgt := 18) rfl ?_
                  exact nx _ s1 (Or.inr ⟨b, best_keep hb (by omega), rfl⟩) F1
              exact b13
          · refine qW.blk rfl ?_
            refine qv_iload rfl ?_
            refine qv_iconst (v := 1) rfl ?_
            refine qv_aload rfl ?_
            refine qv_gr ly_163 ⟨rfl, rfl, rfl⟩ (by omega) ?_
            refine qv_iconst (v := 2) rfl ?_
            refine qv_ia (j := 2) ly_164 rfl (by omega) (by decide) (K1.1 2 (by decide)) ?_
            refine qv_ishl ?_
            refine qv_icmp_ge_f (h10) (nx := 11) rfl ?_
            refine qW.blk rfl ?_
            refine qv_iload rfl ?_
            refine qv_iload rfl ?_
            refine qv_iconst (v := (-1)) rfl ?_
            refine qv_ixor ?_
            refine qv_iand ?_
            refine qv_if_ne_t (h1) (tgt := 18) rfl ?_
            exact nx g s1 (bsf_no hg (fun z => h1 ((hPd x).mp z).1)) F1
      have loopA : ∀ (c m : Nat), m + c = aC A 2 → qW X PR (d - 1) (some .int) cd_Model_tell 4 [some (.ref (163)), some (.int (nI k)), some (.int (nI e)), some (.int (nI (bsN (fun m => aC A (10 + m) = 0) m))), some (.int (nI m)), none] [] (uF s 163 0 0) Q := by
        intro c
        induction c with
        | zero =>
          intro m hm
          have em : m = aC A 2 := by omega
          subst em
          refine qW.blk rfl ?_
          refine qv_iload rfl ?_
          refine qv_aload rfl ?_
          refine qv_gr ly_163 ⟨rfl, rfl, rfl⟩ (by omega) ?_
          refine qv_iconst (v := 2) rfl ?_
          refine qv_ia (j := 2) ly_164 rfl (by omega) (by decide) (J1.1 2 (by decide)) ?_
          refine qv_icmp_geNt rfl rfl (by omega) (by omega) (by omega) (tgt := 9) rfl ?_
          refine qW.blk rfl ?_
          refine qv_iconst (v := (-4)) rfl ?_
          refine qv_istore (L' := [_, _, _, _, _, _]) rfl ?_
          refine qv_iconst (v := 0) rfl ?_
          refine qv_istore (L' := [_, _, _, _, _, _]) rfl ?_
          refine qv_nil (nx := 10) rfl ?_
          rw [hal]
          exact loopB (2 ^ (aC A 2)) 0 _ _ (by omega) (Or.inl ⟨fun y hy => by omega, rfl⟩) (kfr.rf _ _)
        | succ c ih =>
          intro m hm
          have hk5 := (hC.2.2.2.2.2 m (by omega)).1
          have hb := bsN_or9 (P := fun m => aC A (10 + m) = 0) (n := m) (by omega)
          have nx := ih (m + 1) (by omega)
          by_cases h : aC A (10 + m) = 0
          · refine qW.blk rfl ?_
            refine qv_iload rfl ?_
            refine qv_aload rfl ?_
            refine qv_gr ly_163 ⟨rfl, rfl, rfl⟩ (by omega) ?_
            refine qv_iconst (v := 2) rfl ?_
            refine qv_ia (j := 2) ly_164 rfl (by omega) (by decide) (J1.1 2 (by decide)) ?_
            refine qv_icmp_geNf rfl rfl (by omega) (by omega) (by omega) (nx := 5) rfl ?_
            refine qW.blk rfl ?_
            refine qv_iload rfl ?_
            refine qv_aload rfl ?_
            refine qv_gr ly_163 ⟨rfl, rfl, rfl⟩ (by omega) ?_
            refine qv_iconst (v := 10) rfl ?_
            refine qv_iload rfl ?_
            refine qv_iaddN (p := 10) rfl rfl ?_
            refine qv_ia ly_164 rfl (by omega) (by decide) (J1.1 (10 + m) (by omega)) ?_
            refine qv_if_neNf rfl (by omega) (by omega) (nx := 6) rfl ?_
            refine qW.blk rfl ?_
            refine qv_iconst (v := 1) rfl ?_
            refine qv_iload rfl ?_
            refine qv_ishl ?_
            refine qv_goto (tgt := 8) rfl ?_
            refine qW.blk rfl ?_
            refine qv_ior ?_
            refine qv_top (hb.1 h) ?_
            refine qv_istore (L' := [_, _, _, _, _, _]) rfl ?_
            refine qv_iinc (L' := [_, _, _, _, _, _]) rfl (nI_succ _).symm rfl ?_
            refine qv_goto (tgt := 4) rfl ?_
            exact nx
          · refine qW.blk rfl ?_
            refine qv_iload rfl ?_
            refine qv_aload rfl ?_
            refine qv_gr ly_163 ⟨rfl, rfl, rfl⟩ (by omega) ?_
            refine qv_iconst (v := 2) rfl ?_
            refine qv_ia (j := 2) ly_164 rfl (by omega) (by decide) (J1.1 2 (by decide)) ?_
            refine qv_icmp_geNf rfl rfl (by omega) (by omega) (by omega) (nx := 5) rfl ?_
            refine qW.blk rfl ?_
            refine qv_iload rfl ?_
            refine qv_aload rfl ?_
            refine qv_gr ly_163 ⟨rfl, rfl, rfl⟩ (by omega) ?_
            refine qv_iconst (v := 10) rfl ?_
            refine qv_iload rfl ?_
            refine qv_iaddN (p := 10) rfl rfl ?_
            refine qv_ia ly_164 rfl (by omega) (by decide) (J1.1 (10 + m) (by omega)) ?_
            refine qv_if_neNt rfl (by omega) (by omega) (tgt := 7) rfl ?_
            refine qW.blk rfl ?_
            refine qv_iconst (v := 0) rfl ?_
            refine qv_nil (nx := 8) rfl ?_
            refine qW.blk rfl ?_
            refine qv_ior ?_
            refine qv_top ((or_zero32 _).trans (congrArg nI (hb.2 h))) ?_
            refine qv_istore (L' := [_, _, _, _, _, _]) rfl ?_
            refine qv_iinc (L' := [_, _, _, _, _, _]) rfl (nI_succ _).symm rfl ?_
            refine qv_goto (tgt := 4) rfl ?_
            exact nx
      refine qW.blk rfl ?_
      refine qv_aload rfl ?_
      refine qv_iconst (v := 0) rfl ?_
      refine qv_pi ly_163 ⟨rfl, rfl, rfl⟩ (rfl) ?_
      refine qv_aload rfl ?_
      refine qv_iload rfl ?_
      refine qv_virtE (ly_163.rcv _) sg_Model_isTree rfl rfl (r_M_isTree hP (by omega) (nI k) (J1.1 3 (by decide))) ?_
      refine qv_if_eq_f (bI_ne.mpr ((in_nI1 (by omega)).mpr ⟨k, hk3, rfl⟩)) (nx := 1) rfl ?_
      refine qW.blk rfl ?_
      refine qv_iload rfl ?_
      refine qv_staticE sg_Model_isEnd rfl (r_Model_isEnd hP (by omega) (nI e) _) ?_
      refine qv_if_ne_t (bI_ne.mpr (ie)) (tgt := 3) rfl ?_
      refine qW.blk rfl ?_
      refine qv_iconst (v := 0) rfl ?_
      refine qv_istore (L' := [_, _, _, _, _, _]) rfl ?_
      refine qv_iconst (v := 0) rfl ?_
      refine qv_istore (L' := [_, _, _, _, _, _]) rfl ?_
      refine qv_nil (nx := 4) rfl ?_
      exact loopA (aC A 2) 0 (by omega)
  · refine ⟨.int (-1), A, hA, ?_, ?_⟩
    · intro s Q hJ hk
      have fin := hk s hJ (cfr.rf s)
      refine qP.of (L := [_, _, _, _]) (by omega) (hP _ rfl) ms_Desk_tell rfl ?_
      show qW X PR (d - 1) (some .int) cd_Desk_tell 0 _ _ _ _
      rcases pl_of t (aC A 3) with ⟨k, hk3, rfl⟩ | hn
      · obtain ⟨T, hT1, hT2⟩ := hJ.2.2.2.1 k hk3
        have hj : ¬ (0 ≤ y ∧ y ≤ nI 6) := fun z => hv ⟨⟨k, hk3, rfl⟩, (in_nI (n := 6) (by omega)).mp z⟩
        refine qW.blk rfl ?_
        refine qv_aload rfl ?_
        refine qv_gr ly_8 ⟨rfl, rfl, rfl⟩ (by omega) ?_
        refine qv_iload rfl ?_
        refine qv_virtE (ly_9.rcv _) sg_Chamber_treeAt rfl rfl (r_treeAt_y hP (by omega) hJ.1.2.2.2.1 h12 hk3 hT1) ?_
        refine qv_astore (L' := [_, _, _, _]) rfl ?_
        refine qv_aload rfl ?_
        refine qv_null_f (nx := 1) rfl ?_
        refine qW.blk rfl ?_
        refine qv_iload rfl ?_
        refine qv_staticE sg_Desk_isEnd rfl (r_Desk_isEnd hP (by omega) y _) ?_
        refine qv_if_ne_f (fun zq => zq (bI_f (hj))) (nx := 2) rfl ?_
        refine qW.blk rfl ?_
        refine qv_iconst (v := (-1)) rfl ?_
        refine qv_iret (rfl) ?_
        exact fin
      · refine qW.blk rfl ?_
        refine qv_aload rfl ?_
        refine qv_gr ly_8 ⟨rfl, rfl, rfl⟩ (by omega) ?_
        refine qv_iload rfl ?_
        refine qv_virtE (ly_9.rcv _) sg_Chamber_treeAt rfl rfl (r_treeAt_n hP (by omega) hJ.1.2.2.2.1 h12 hn) ?_
        refine qv_astoreN (L' := [_, _, _, _]) rfl ?_
        refine qv_aloadN rfl ?_
        refine qv_null_t (tgt := 2) rfl ?_
        refine qW.blk rfl ?_
        refine qv_iconst (v := (-1)) rfl ?_
        refine qv_iret (rfl) ?_
        exact fin
    · intro s Q hJ hk
      have fin := hk (uF s 163 0 0) hJ.thr ((qfr.rf s).uF (by omega))
      refine qP.of (L := [_, _, _, _, _, _]) (by omega) (hP _ rfl) ms_Model_tell rfl ?_
      show qW X PR (d - 1) (some .int) cd_Model_tell 0 _ _ _ _
      rcases pl_of t (aC A 3) with hm | hn
      · have hj : ¬ (0 ≤ y ∧ y ≤ nI 6) := fun z => hv ⟨hm, (in_nI (n := 6) (by omega)).mp z⟩
        refine qW.blk rfl ?_
        refine qv_aload rfl ?_
        refine qv_iconst (v := 0) rfl ?_
        refine qv_pi ly_163 ⟨rfl, rfl, rfl⟩ (rfl) ?_
        refine qv_aload rfl ?_
        refine qv_iload rfl ?_
        refine qv_virtE (ly_163.rcv _) sg_Model_isTree rfl rfl (r_M_isTree hP (by omega) t (hJ.thr.1 3 (by decide))) ?_
        refine qv_if_eq_f (bI_ne.mpr ((in_nI1 (by omega)).mpr hm)) (nx := 1) rfl ?_
        refine qW.blk rfl ?_
        refine qv_iload rfl ?_
        refine qv_staticE sg_Model_isEnd rfl (r_Model_isEnd hP (by omega) y _) ?_
        refine qv_if_ne_f (fun zq => zq (bI_f (hj))) (nx := 2) rfl ?_
        refine qW.blk rfl ?_
        refine qv_iconst (v := (-1)) rfl ?_
        refine qv_iret (rfl) ?_
        exact fin
      · refine qW.blk rfl ?_
        refine qv_aload rfl ?_
        refine qv_iconst (v := 0) rfl ?_
        refine qv_pi ly_163 ⟨rfl, rfl, rfl⟩ (rfl) ?_
        refine qv_aload rfl ?_
        refine qv_iload rfl ?_
        refine qv_virtE (ly_163.rcv _) sg_Model_isTree rfl rfl (r_M_isTree hP (by omega) t (hJ.thr.1 3 (by decide))) ?_
        refine qv_if_eq_t (bI_f (fun z => hn ((in_nI1 (by omega)).mp z))) (tgt := 2) rfl ?_
        refine qW.blk rfl ?_
        refine qv_iconst (v := (-1)) rfl ?_
        refine qv_iret (rfl) ?_
        exact fin
end
