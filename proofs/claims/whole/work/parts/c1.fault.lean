/-! fault is alike -/
/-- nothing is read yet -/
def p00 : PS := (0, 0, fun _ => (0, 0, 0, 0, 0), 0, fun _ => (0, 0, 0, 0, 0), 0, fun _ => 0)
/-- what is answered of a text: below 0 it is a TREE -/
def ftv (B : Nat → Nat) (z n : Nat) : Int32 := if (pp B z n 6 p00).1 = 1 ∧ sA (pp B z n 6 p00).2 = z then -1 else nI (sA (pp B z n 6 p00).2)
theorem ftv_lt {B : Nat → Nat} {z n : Nat} : sA (pp B z n 6 p00).2 ≤ z := (pp_good 6 p00).2.2.1 (Nat.zero_le z)
section
variable {X : pm_X} {PR : pm_P} {s : QST} {Q : QPost}
theorem w_C_faultOf (hP : pm_np PR) {d : Nat} (hd : 18 ≤ d) {TB z n : Nat} {B : Nat → Nat} (hTB : qLY TB (0, 120, [])) (hTB2 : 123 ≤ TB) (hz : z ≤ 120) (hn : n ≤ 7) (hB : ∀ j, j < z → byt (qE s TB j) (B j)) (hk : ∀ s', qfr 70 73 (uX s (.ref TB)) s' → ((pp B z n 6 p00).1 = 1 → RC s' (pp B z n 6 p00).2) → Q (some (.int (ftv B z n))) s') : qP X PR d 88 [.ref 70, .ref TB, .int (nI z), .int (nI n)] s Q := by
  have hl := ftv_lt (B := B) (z := z) (n := n)
  have hg := (pp_good (B := B) (z := z) (n := n) 6 p00).1
  obtain ⟨s1, hs1⟩ : ∃ s1, s1 = uF (uF (uF (uF (uX s (.ref TB)) 70 1 (nI z)) 70 2 (nI n)) 70 3 0) 70 4 0 := ⟨_, rfl⟩
  have F1 : qfr 70 73 (uX s (.ref TB)) s1 := by rw [hs1]; exact ((((qfr.rf _).uF (by omega)).uF (by omega)).uF (by omega)).uF (by omega)
  have T1 : RT s1 TB z n B := by
    rw [hs1]
    exact ⟨rfl, by rw [qF_uFk (by decide), qF_uFk (by decide), qF_uFk (by decide), qF_uFs], by rw [qF_uFk (by decide), qF_uFk (by decide), qF_uFs], hB⟩
  have C1 : RC s1 p00 := by
    rw [hs1]
    exact ⟨by rw [qF_uFk (by decide), qF_uFs]; rfl, by rw [qF_uFs]; rfl, fun j hj => absurd hj (Nat.not_lt_zero _)⟩
  have wr := fun (d : Nat) (Q : QPost) (h : 2 * 6 + 5 ≤ d) hq => w_readPart (X := X) (PR := PR) hP hTB hTB2 hz hn 6 d 0 s1 p00 Q h rfl T1 C1 (Nat.le_refl _) (Nat.zero_le _) hq
  unfold ftv at hk
  obtain ⟨R, hR⟩ : ∃ R, pp B z n 6 p00 = R := ⟨_, rfl⟩
  rw [hR] at hk hl hg wr
  subst hs1
  refine qP.of (L := [_, _, _, _, _]) (by omega) (hP _ rfl) ms_Reader_faultOf rfl ?_
  show qW X PR (d - 1) (some .int) cd_Reader_faultOf 0 _ _ _ _
  by_cases h1 : R.1 = 1
  · by_cases h2 : sA R.2 = z
    · rw [if_pos ⟨h1, h2⟩] at hk
      refine qW.blk rfl ?_
      refine qv_aload rfl ?_
      refine qv_aload rfl ?_
      refine qv_px rfl ?_
      refine qv_aload rfl ?_
      refine qv_iload rfl ?_
      refine qv_pi ly_70 ⟨rfl, rfl, rfl⟩ (rfl) ?_
      refine qv_aload rfl ?_
      refine qv_iload rfl ?_
      refine qv_pi ly_70 ⟨rfl, rfl, rfl⟩ (rfl) ?_
      refine qv_aload rfl ?_
      refine qv_iconst (v := 0) rfl ?_
      refine qv_pi ly_70 ⟨rfl, rfl, rfl⟩ (rfl) ?_
      refine qv_aload rfl ?_
      refine qv_iconst (v := 0) rfl ?_
      refine qv_pi ly_70 ⟨rfl, rfl, rfl⟩ (rfl) ?_
      refine qv_aload rfl ?_
      refine qv_iconst (v := 0) rfl ?_
      refine qv_virt (ly_70.rcv _) sg_Reader_readPart rfl rfl (wr _ _ (by omega) (fun s2 F2 q1 q2 => ?_)) 
      refine qv_istore (L' := [_, _, _, _, _]) rfl ?_
      refine qv_iload rfl ?_
      refine qv_if_eqNf rfl (by omega) (by omega) (nx := 1) rfl ?_
      refine qW.blk rfl ?_
      refine qv_aload rfl ?_
      refine qv_gi ly_70 ⟨rfl, rfl, rfl⟩ (q1) ?_
      refine qv_aload rfl ?_
      refine qv_gi ly_70 ⟨rfl, rfl, rfl⟩ ((F2.2.1.trans T1.2.1)) ?_
      refine qv_icmp_neNf rfl rfl (by omega) (by omega) (by omega) (nx := 2) rfl ?_
      refine qW.blk rfl ?_
      refine qv_iconst (v := (-1)) rfl ?_
      refine qv_goto (tgt := 4) rfl ?_
      refine qW.blk rfl ?_
      refine qv_iret (rfl) ?_
      exact hk s2 (F1.trans F2.1) q2
    · rw [if_neg (fun q => h2 q.2)] at hk
      refine qW.blk rfl ?_
      refine qv_aload rfl ?_
      refine qv_aload rfl ?_
      refine qv_px rfl ?_
      refine qv_aload rfl ?_
      refine qv_iload rfl ?_
      refine qv_pi ly_70 ⟨rfl, rfl, rfl⟩ (rfl) ?_
      refine qv_aload rfl ?_
      refine qv_iload rfl ?_
      refine qv_pi ly_70 ⟨rfl, rfl, rfl⟩ (rfl) ?_
      refine qv_aload rfl ?_
      refine qv_iconst (v := 0) rfl ?_
      refine qv_pi ly_70 ⟨rfl, rfl, rfl⟩ (rfl) ?_
      refine qv_aload rfl ?_
      refine qv_iconst (v := 0) rfl ?_
      refine qv_pi ly_70 ⟨rfl, rfl, rfl⟩ (rfl) ?_
      refine qv_aload rfl ?_
      refine qv_iconst (v := 0) rfl ?_
      refine qv_virt (ly_70.rcv _) sg_Reader_readPart rfl rfl (wr _ _ (by omega) (fun s2 F2 q1 q2 => ?_)) 
      refine qv_istore (L' := [_, _, _, _, _]) rfl ?_
      refine qv_iload rfl ?_
      refine qv_if_eqNf rfl (by omega) (by omega) (nx := 1) rfl ?_
      refine qW.blk rfl ?_
      refine qv_aload rfl ?_
      refine qv_gi ly_70 ⟨rfl, rfl, rfl⟩ (q1) ?_
      refine qv_aload rfl ?_
      refine qv_gi ly_70 ⟨rfl, rfl, rfl⟩ ((F2.2.1.trans T1.2.1)) ?_
      refine qv_icmp_neNt rfl rfl (by omega) (by omega) (by omega) (tgt := 3) rfl ?_
      refine qW.blk rfl ?_
      refine qv_aload rfl ?_
      refine qv_gi ly_70 ⟨rfl, rfl, rfl⟩ (q1) ?_
      refine qv_nil (nx := 4) rfl ?_
      refine qW.blk rfl ?_
      refine qv_iret (rfl) ?_
      exact hk s2 (F1.trans F2.1) q2
  · rw [if_neg (fun q => h1 q.1)] at hk
    refine qW.blk rfl ?_
    refine qv_aload rfl ?_
    refine qv_aload rfl ?_
    refine qv_px rfl ?_
    refine qv_aload rfl ?_
    refine qv_iload rfl ?_
    refine qv_pi ly_70 ⟨rfl, rfl, rfl⟩ (rfl) ?_
    refine qv_aload rfl ?_
    refine qv_iload rfl ?_
    refine qv_pi ly_70 ⟨rfl, rfl, rfl⟩ (rfl) ?_
    refine qv_aload rfl ?_
    refine qv_iconst (v := 0) rfl ?_
    refine qv_pi ly_70 ⟨rfl, rfl, rfl⟩ (rfl) ?_
    refine qv_aload rfl ?_
    refine qv_iconst (v := 0) rfl ?_
    refine qv_pi ly_70 ⟨rfl, rfl, rfl⟩ (rfl) ?_
    refine qv_aload rfl ?_
    refine qv_iconst (v := 0) rfl ?_
    refine qv_virt (ly_70.rcv _) sg_Reader_readPart rfl rfl (wr _ _ (by omega) (fun s2 F2 q1 q2 => ?_)) 
    refine qv_istore (L' := [_, _, _, _, _]) rfl ?_
    refine qv_iload rfl ?_
    refine qv_if_eqNt rfl (by omega) (by omega) (tgt := 3) rfl ?_
    refine qW.blk rfl ?_
    refine qv_aload rfl ?_
    refine qv_gi ly_70 ⟨rfl, rfl, rfl⟩ (q1) ?_
    refine qv_nil (nx := 4) rfl ?_
    refine qW.blk rfl ?_
    refine qv_iret (rfl) ?_
    exact hk s2 (F1.trans F2.1) q2
theorem w_M_faultOf (hP : pm_np PR) {d : Nat} (hd : 13 ≤ d) {dd z n : Nat} {B : Nat → Nat} (hdd : dd < 8) (hz : z ≤ 120) (hn1 : 1 ≤ n) (hn : n ≤ 7) (h200 : qE s 200 dd = nI z) (h164 : qE s 164 0 = nI n) (hB : ∀ j, j < z → B j < 256 ∧ (qL s 201 (120 * dd + j)).toInt32 &&& 255 = nI (B j)) (hk : ∀ s', rfr s s' → ((pp B z n 6 p00).1 = 1 → qF s' 163 15 = nI (sC (pp B z n 6 p00).2) ∧ qF s' 163 16 = nI (sQ (pp B z n 6 p00).2) ∧ ndr s' (sC (pp B z n 6 p00).2) (sU (pp B z n 6 p00).2)) → Q (some (.int (ftv B z n))) s') : qP X PR d 179 [.ref 163, .int (nI dd)] s Q := by
  have hl := ftv_lt (B := B) (z := z) (n := n)
  have hg := (pp_good (B := B) (z := z) (n := n) 6 p00).1
  obtain ⟨s1, hs1⟩ : ∃ s1, s1 = uF (uF (uF (uF (uF (uF (uF (uF s 163 11 (nI (120 * dd))) 163 12 (nI z)) 163 13 0) 163 14 0) 163 27 0) 163 15 0) 163 16 0) 163 26 0 := ⟨_, rfl⟩
  have F1 : rfr s s1 := by rw [hs1]; exact ((((((((rfr.rf s).sF (by omega)).sF (by omega)).sF (by omega)).sF (by omega)).sF (by omega)).sF (by omega)).sF (by omega)).sF (by omega)
  have P1 : PB s1 dd z n B := by
    rw [hs1]
    exact ⟨by rw [qF_uFk (by decide), qF_uFk (by decide), qF_uFk (by decide), qF_uFk (by decide), qF_uFk (by decide), qF_uFk (by decide), qF_uFk (by decide), qF_uFs], by rw [qF_uFk (by decide), qF_uFk (by decide), qF_uFk (by decide), qF_uFk (by decide), qF_uFk (by decide), qF_uFk (by decide), qF_uFs], h164, hB⟩
  have R1 : RS0 s1 0 0 0 0 0 := by
    rw [hs1]
    exact ⟨by rw [qF_uFk (by decide), qF_uFk (by decide), qF_uFk (by decide), qF_uFk (by decide), qF_uFk (by decide), qF_uFs]; rfl, by rw [qF_uFk (by decide), qF_uFk (by decide), qF_uFk (by decide), qF_uFk (by decide), qF_uFs], by rw [qF_uFk (by decide), qF_uFk (by decide), qF_uFs]; rfl, by rw [qF_uFk (by decide), qF_uFs]; rfl, qF_uFs, by rw [qF_uFk (by decide), qF_uFk (by decide), qF_uFk (by decide), qF_uFs]; rfl⟩
  have wm := w_mread (X := X) (PR := PR) (Q := Q) hP hdd hz hn1 hn (d := d) (by omega) 6 0 s1 p00 rfl P1 R1 (fun j hj => absurd hj (Nat.not_lt_zero _)) (Nat.zero_le _) (Nat.zero_le _)
  unfold MRd at wm
  unfold ftv at hk
  obtain ⟨R, hR⟩ : ∃ R, pp B z n 6 p00 = R := ⟨_, rfl⟩
  rw [hR] at hk hl hg wm
  have lp : LH X PR d dd Q s1 := by
    refine wm (fun h1 s2 F2 R2 N2 K2 => ?_) (fun h1 s2 F2 q1 q2 => ?_)
    · intro dp Qp n0 L4 hdp hQp
      rw [if_pos rfl] at R2 ⊢
      refine w_part_end (hQp s2 ?_)
      intro L2 L3
      obtain ⟨h13, h14, h15, h16, h26, h27⟩ := R2
      have e12 : qF s2 163 12 = nI z := F2.2.2.trans P1.2.1
      have w : qW X PR (d - 1) (some .int) cd_Model_faultOf 1 [some (.ref (163)), some (.int (nI dd)), L2, L3] [] s2 Q := by
        by_cases h2 : sA R.2 = z
        · rw [if_pos ⟨h1, h2⟩] at hk
          refine qW.blk rfl ?_
          refine qv_aload rfl ?_
          refine qv_gi ly_163 ⟨rfl, rfl, rfl⟩ (rfl) ?_
          refine qv_if_ne_f (fun q => q h14) (nx := 2) rfl ?_
          refine qW.blk rfl ?_
          refine qv_aload rfl ?_
          refine qv_gi ly_163 ⟨rfl, rfl, rfl⟩ (rfl) ?_
          refine qv_if_ne_t (fun q => absurd (h27.symm.trans q) (by decide)) (tgt := 15) rfl ?_
          refine qW.blk rfl ?_
          refine qv_aload rfl ?_
          refine qv_aload rfl ?_
          refine qv_gi ly_163 ⟨rfl, rfl, rfl⟩ (rfl) ?_
          refine qv_if_ne_f (fun q => q h14) (nx := 16) rfl ?_
          refine qW.blk rfl ?_
          refine qv_aload rfl ?_
          refine qv_gi ly_163 ⟨rfl, rfl, rfl⟩ (h13) ?_
          refine qv_aload rfl ?_
          refine qv_gi ly_163 ⟨rfl, rfl, rfl⟩ (e12) ?_
          refine qv_icmp_geNt rfl rfl (by omega) (by omega) (by omega) (tgt := 18) rfl ?_
          refine qW.blk rfl ?_
          refine qv_iconst (v := 0) rfl ?_
          refine qv_nil (nx := 19) rfl ?_
          refine qW.blk rfl ?_
          refine qv_pi ly_163 ⟨rfl, rfl, rfl⟩ (rfl) ?_
          refine qv_aload rfl ?_
          refine qv_gi ly_163 ⟨rfl, rfl, rfl⟩ (rfl) ?_
          refine qv_if_eq_t (qF_uFs) (tgt := 21) rfl ?_
          refine qW.blk rfl ?_
          refine qv_iconst (v := (-1)) rfl ?_
          refine qv_nil (nx := 22) rfl ?_
          refine qW.blk rfl ?_
          refine qv_iret (rfl) ?_
          refine hk _ ((F1.trans F2.1).sF (by omega)) (fun _ => ⟨?_, ?_, N2.cg (fun k _ _ => rfl)⟩)
          · rw [qF_uFk (by decide)]; exact h15
          · rw [qF_uFk (by decide)]; exact h16
        · rw [if_neg (fun q => h2 q.2)] at hk
          refine qW.blk rfl ?_
          refine qv_aload rfl ?_
          refine qv_gi ly_163 ⟨rfl, rfl, rfl⟩ (rfl) ?_
          refine qv_if_ne_f (fun q => q h14) (nx := 2) rfl ?_
          refine qW.blk rfl ?_
          refine qv_aload rfl ?_
          refine qv_gi ly_163 ⟨rfl, rfl, rfl⟩ (rfl) ?_
          refine qv_if_ne_t (fun q => absurd (h27.symm.trans q) (by decide)) (tgt := 15) rfl ?_
          refine qW.blk rfl ?_
          refine qv_aload rfl ?_
          refine qv_aload rfl ?_
          refine qv_gi ly_163 ⟨rfl, rfl, rfl⟩ (rfl) ?_
          refine qv_if_ne_f (fun q => q h14) (nx := 16) rfl ?_
          refine qW.blk rfl ?_
          refine qv_aload rfl ?_
          refine qv_gi ly_163 ⟨rfl, rfl, rfl⟩ (h13) ?_
          refine qv_aload rfl ?_
          refine qv_gi ly_163 ⟨rfl, rfl, rfl⟩ (e12) ?_
          refine qv_icmp_geNf rfl rfl (by omega) (by omega) (by omega) (nx := 17) rfl ?_
          refine qW.blk rfl ?_
          refine qv_iconst (v := 1) rfl ?_
          refine qv_goto (tgt := 19) rfl ?_
          refine qW.blk rfl ?_
          refine qv_pi ly_163 ⟨rfl, rfl, rfl⟩ (rfl) ?_
          refine qv_aload rfl ?_
          refine qv_gi ly_163 ⟨rfl, rfl, rfl⟩ (rfl) ?_
          refine qv_if_eq_f (fun q => absurd (q.symm.trans qF_uFs) (by decide)) (nx := 20) rfl ?_
          refine qW.blk rfl ?_
          refine qv_aload rfl ?_
          refine qv_gi ly_163 ⟨rfl, rfl, rfl⟩ ((qF_uFk (by decide)).trans h13) ?_
          refine qv_goto (tgt := 22) rfl ?_
          refine qW.blk rfl ?_
          refine qv_iret (rfl) ?_
          refine hk _ ((F1.trans F2.1).sF (by omega)) (fun _ => ⟨?_, ?_, N2.cg (fun k _ _ => rfl)⟩)
          · rw [qF_uFk (by decide)]; exact h15
          · rw [qF_uFk (by decide)]; exact h16
      exact w
    · intro L2 L3
      rw [if_neg (fun q => by omega)] at hk
      have w : qW X PR (d - 1) (some .int) cd_Model_faultOf 1 [some (.ref (163)), some (.int (nI dd)), L2, L3] [] s2 Q := by
        refine qW.blk rfl ?_
        refine qv_aload rfl ?_
        refine qv_gi ly_163 ⟨rfl, rfl, rfl⟩ (rfl) ?_
        refine qv_if_ne_t (fun q => absurd (q.symm.trans q2) (by decide)) (tgt := 15) rfl ?_
        refine qW.blk rfl ?_
        refine qv_aload rfl ?_
        refine qv_aload rfl ?_
        refine qv_gi ly_163 ⟨rfl, rfl, rfl⟩ (rfl) ?_
        refine qv_if_ne_t (fun q => absurd (q.symm.trans q2) (by decide)) (tgt := 17) rfl ?_
        refine qW.blk rfl ?_
        refine qv_iconst (v := 1) rfl ?_
        refine qv_goto (tgt := 19) rfl ?_
        refine qW.blk rfl ?_
        refine qv_pi ly_163 ⟨rfl, rfl, rfl⟩ (rfl) ?_
        refine qv_aload rfl ?_
        refine qv_gi ly_163 ⟨rfl, rfl, rfl⟩ (rfl) ?_
        refine qv_if_eq_f (fun q => absurd (q.symm.trans qF_uFs) (by decide)) (nx := 20) rfl ?_
        refine qW.blk rfl ?_
        refine qv_aload rfl ?_
        refine qv_gi ly_163 ⟨rfl, rfl, rfl⟩ ((qF_uFk (by decide)).trans q1) ?_
        refine qv_goto (tgt := 22) rfl ?_
        refine qW.blk rfl ?_
        refine qv_iret (rfl) ?_
        exact hk _ ((F1.trans F2.1).sF (by omega)) (fun q => by omega)
      exact w
  subst hs1
  refine qP.of (L := [_, _, _, _]) (by omega) (hP _ rfl) ms_Model_faultOf rfl ?_
  show qW X PR (d - 1) (some .int) cd_Model_faultOf 0 _ _ _ _
  refine qW.blk rfl ?_
  refine qv_aload rfl ?_
  refine qv_iconst (v := 120) rfl ?_
  refine qv_iload rfl ?_
  refine qv_imulN (p := 120) rfl rfl ?_
  refine qv_pi ly_163 ⟨rfl, rfl, rfl⟩ (rfl) ?_
  refine qv_aload rfl ?_
  refine qv_aload rfl ?_
  refine qv_gr ly_163 ⟨rfl, rfl, rfl⟩ (by omega) ?_
  refine qv_iload rfl ?_
  refine qv_ia ly_200 rfl (by omega) (by decide) (h200) ?_
  refine qv_pi ly_163 ⟨rfl, rfl, rfl⟩ (rfl) ?_
  refine qv_aload rfl ?_
  refine qv_iconst (v := 0) rfl ?_
  refine qv_pi ly_163 ⟨rfl, rfl, rfl⟩ (rfl) ?_
  refine qv_aload rfl ?_
  refine qv_iconst (v := 0) rfl ?_
  refine qv_pi ly_163 ⟨rfl, rfl, rfl⟩ (rfl) ?_
  refine qv_aload rfl ?_
  refine qv_iconst (v := 0) rfl ?_
  refine qv_pi ly_163 ⟨rfl, rfl, rfl⟩ (rfl) ?_
  refine qv_aload rfl ?_
  refine qv_iconst (v := 0) rfl ?_
  refine qv_pi ly_163 ⟨rfl, rfl, rfl⟩ (rfl) ?_
  refine qv_aload rfl ?_
  refine qv_iconst (v := 0) rfl ?_
  refine qv_pi ly_163 ⟨rfl, rfl, rfl⟩ (rfl) ?_
  refine qv_aload rfl ?_
  refine qv_iconst (v := 0) rfl ?_
  refine qv_pi ly_163 ⟨rfl, rfl, rfl⟩ (rfl) ?_
  refine qv_nil (nx := 1) rfl ?_
  exact lp _ _
end
section
variable {X : pm_X} {PR : pm_P}
theorem bytes_ex {f : Nat → Int32} (h : ∀ j, j < 120 → -128 ≤ (f j).toInt ∧ (f j).toInt ≤ 127) : ∃ B : Nat → Nat, ∀ j, j < 120 → byt (f j) (B j) := by
  have : ∀ j, ∃ b, j < 120 → byt (f j) b := fun j => by
    by_cases hj : j < 120
    · obtain ⟨b, hb⟩ := byt_ex (h j hj).1 (h j hj).2
      exact ⟨b, fun _ => hb⟩
    · exact ⟨0, fun q => absurd q hj⟩
  exact Classical.axiomOfChoice this
theorem JC_uX {s : QST} {A : AS} {v : Value} (h : JC s A) : JC (uX s v) A := h
theorem cfr_uX {s t : QST} {v : Value} (h : cfr (uX s v) t) : cfr s t := h
theorem nI_lt0 {k : Nat} (h : k < 2 ^ 31) : ¬ nI k < 0 := Int32.not_lt.mpr (nI_pos' h)
theorem Sim_fault (hP : pm_np PR) (b : Int32) : Sim X PR 119 177 [.int b] := by
  intro d A hd hA
  have hC := hA.1
  have hn1 := hC.1
  have hn7 := hC.2.1
  rcases pl_of b 8 with ⟨l, hl8, rfl⟩ | hnb
  · obtain ⟨s1, s2, s3, s4, -⟩ := hA.2.2.2.2 l hl8
    by_cases hr : refB (aS A l).1 (aS A l).2.1 = 0
    · have h2 := refB_0 hr
      have hso : (aS A l).2.1 = 0 := by
        refine Classical.byContradiction fun q => ?_
        unfold refB at hr
        rw [if_pos ⟨h2, q⟩] at hr
        exact absurd hr (by decide)
      obtain ⟨B, hB⟩ := bytes_ex (s4 h2 hso)
      have hl := ftv_lt (B := B) (z := (aS A l).2.2.1) (n := aC A 0)
      refine ⟨.int (if ftv B (aS A l).2.2.1 (aC A 0) = -1 then -4 else ftv B (aS A l).2.2.1 (aC A 0)), A, hA, ?_, ?_⟩
      · intro s Q hJ hk
        obtain ⟨c1, c2, -⟩ := hJ.2.2.2.2 l hl8
        obtain ⟨c3, c4, c5⟩ := c2 h2
        have hBs : ∀ j, j < (aS A l).2.2.1 → byt (qE s (123 + 5 * l + 4) j) (B j) := fun j hj => by rw [c5 j (by omega)]; exact hB j (by omega)
        have fin : ∀ s', qfr 70 73 (uX s (.ref (123 + 5 * l + 4))) s' → Q (some (.int (if ftv B (aS A l).2.2.1 (aC A 0) = -1 then -4 else ftv B (aS A l).2.2.1 (aC A 0)))) s' := fun s' F => hk s' ((JC_uX hJ).fr hA F (by omega)) (cfr_uX (F.c (by omega) (by omega)))
        refine qP.of (L := [_, _, _, _, _]) (by omega) (hP _ rfl) ms_Desk_fault rfl ?_
        show qW X PR (d - 1) (some .int) cd_Desk_fault 0 _ _ _ _
        by_cases hv : ftv B (aS A l).2.2.1 (aC A 0) = -1
        · rw [if_pos hv] at fin
          refine qW.blk rfl ?_
          refine qv_aload rfl ?_
          refine qv_iload rfl ?_
          refine qv_virtE (ly_8.rcv _) sg_Desk_shelfAt rfl rfl (r_shelfAt_y hP (by omega) hl8) ?_
          refine qv_astore (L' := [_, _, _, _, _]) rfl ?_
          refine qv_aload rfl ?_
          refine qv_iconst (v := 3) rfl ?_
          refine qv_staticE sg_Desk_refusalOf rfl (r_bytesRefusal hP (by omega) hl8 c1 s1 (fun _ => c3) s2) ?_
          refine qv_istore (L' := [_, _, _, _, _]) rfl ?_
          refine qv_aload rfl ?_
          refine qv_null_f (nx := 1) rfl ?_
          refine qW.blk rfl ?_
          refine qv_iload rfl ?_
          refine qv_if_eq_t (hr) (tgt := 3) rfl ?_
          refine qW.blk rfl ?_
          refine qv_aload rfl ?_
          refine qv_gr ly_8 ⟨rfl, rfl, rfl⟩ (by omega) ?_
          refine qv_aload rfl ?_
          refine qv_gr (ly_sh (d := l) (by omega)) ⟨rfl, rfl, rfl⟩ (by omega) ?_
          refine qv_aload rfl ?_
          refine qv_gi (ly_sh (d := l) (by omega)) ⟨rfl, rfl, rfl⟩ (c4) ?_
          refine qv_aload rfl ?_
          refine qv_gr ly_8 ⟨rfl, rfl, rfl⟩ (by omega) ?_
          refine qv_gi ly_9 ⟨rfl, rfl, rfl⟩ (hJ.1.1) ?_
          refine qv_virt (ly_70.rcv _) sg_Reader_faultOf rfl rfl (w_C_faultOf hP (by omega) (ly_shc hl8) (by omega) s3 hn7 hBs (fun t1 F1 q1 => ?_)) 
          refine qv_istore (L' := [_, _, _, _, _]) rfl ?_
          refine qv_iload rfl ?_
          refine qv_iconst (v := (-1)) rfl ?_
          refine qv_icmp_ne_f (fun q => q hv) (nx := 4) rfl ?_
          refine qW.blk rfl ?_
          refine qv_iconst (v := (-4)) rfl ?_
          refine qv_goto (tgt := 6) rfl ?_
          refine qW.blk rfl ?_
          refine qv_iret (rfl) ?_
          exact fin t1 F1
        · rw [if_neg hv] at fin
          refine qW.blk rfl ?_
          refine qv_aload rfl ?_
          refine qv_iload rfl ?_
          refine qv_virtE (ly_8.rcv _) sg_Desk_shelfAt rfl rfl (r_shelfAt_y hP (by omega) hl8) ?_
          refine qv_astore (L' := [_, _, _, _, _]) rfl ?_
          refine qv_aload rfl ?_
          refine qv_iconst (v := 3) rfl ?_
          refine qv_staticE sg_Desk_refusalOf rfl (r_bytesRefusal hP (by omega) hl8 c1 s1 (fun _ => c3) s2) ?_
          refine qv_istore (L' := [_, _, _, _, _]) rfl ?_
          refine qv_aload rfl ?_
          refine qv_null_f (nx := 1) rfl ?_
          refine qW.blk rfl ?_
          refine qv_iload rfl ?_
          refine qv_if_eq_t (hr) (tgt := 3) rfl ?_
          refine qW.blk rfl ?_
          refine qv_aload rfl ?_
          refine qv_gr ly_8 ⟨rfl, rfl, rfl⟩ (by omega) ?_
          refine qv_aload rfl ?_
          refine qv_gr (ly_sh (d := l) (by omega)) ⟨rfl, rfl, rfl⟩ (by omega) ?_
          refine qv_aload rfl ?_
          refine qv_gi (ly_sh (d := l) (by omega)) ⟨rfl, rfl, rfl⟩ (c4) ?_
          refine qv_aload rfl ?_
          refine qv_gr ly_8 ⟨rfl, rfl, rfl⟩ (by omega) ?_
          refine qv_gi ly_9 ⟨rfl, rfl, rfl⟩ (hJ.1.1) ?_
          refine qv_virt (ly_70.rcv _) sg_Reader_faultOf rfl rfl (w_C_faultOf hP (by omega) (ly_shc hl8) (by omega) s3 hn7 hBs (fun t1 F1 q1 => ?_)) 
          refine qv_istore (L' := [_, _, _, _, _]) rfl ?_
          refine qv_iload rfl ?_
          refine qv_iconst (v := (-1)) rfl ?_
          refine qv_icmp_ne_t (hv) (tgt := 5) rfl ?_
          refine qW.blk rfl ?_
          refine qv_iload rfl ?_
          refine qv_nil (nx := 6) rfl ?_
          refine qW.blk rfl ?_
          refine qv_iret (rfl) ?_
          exact fin t1 F1
      · intro s Q hJ hk
        have J1 := hJ.thr (v := 0)
        obtain ⟨c1, c2, -⟩ := J1.2.2.2.2.1 l hl8
        obtain ⟨c3, c4, c5⟩ := c2 h2
        have hr0 : refB (aS A l).1 (aS A l).2.1 = nI 0 := hr
        have hBs : ∀ j, j < (aS A l).2.2.1 → B j < 256 ∧ (qL (uF s 163 0 0) 201 (120 * l + j)).toInt32 &&& 255 = nI (B j) := fun j hj => by
          rw [c5 j (by omega), l2i_i2l]
          exact ⟨(hB j (by omega)).1, byt_and (hB j (by omega))⟩
        have fin : ∀ s', rfr (uF s 163 0 0) s' → Q (some (.int (if ftv B (aS A l).2.2.1 (aC A 0) = -1 then -4 else ftv B (aS A l).2.2.1 (aC A 0)))) s' := fun s' F => hk s' (J1.fr F) (((qfr.rf s).uF (by omega)).trans F.1)
        refine qP.of (L := [_, _, _, _]) (by omega) (hP _ rfl) ms_Model_fault rfl ?_
        show qW X PR (d - 1) (some .int) cd_Model_fault 0 _ _ _ _
        by_cases hv : ftv B (aS A l).2.2.1 (aC A 0) = -1
        · rw [if_pos hv] at fin
          refine qW.blk rfl ?_
          refine qv_aload rfl ?_
          refine qv_iconst (v := 0) rfl ?_
          refine qv_pi ly_163 ⟨rfl, rfl, rfl⟩ (rfl) ?_
          refine qv_aload rfl ?_
          refine qv_iload rfl ?_
          refine qv_virt (ly_163.rcv _) sg_Model_lacks rfl rfl (w_M_lacks hP (by omega) hl8 c1 s1 (fun _ => c3) s2 ?_) 
          refine qv_istore (L' := [_, _, _, _]) rfl ?_
          refine qv_iload rfl ?_
          refine qv_if_ge_t (by rw [hr0]; decide) (tgt := 2) rfl ?_
          refine qW.blk rfl ?_
          refine qv_aload rfl ?_
          refine qv_iload rfl ?_
          refine qv_virt (ly_163.rcv _) sg_Model_faultOf rfl rfl (w_M_faultOf hP (by omega) hl8 s3 hn1 hn7 c4 (J1.1 0 (by decide)) hBs (fun t1 F1 q1 => ?_)) 
          refine qv_istore (L' := [_, _, _, _]) rfl ?_
          refine qv_iload rfl ?_
          refine qv_if_ge_f (by rw [hv]; decide) (nx := 3) rfl ?_
          refine qW.blk rfl ?_
          refine qv_iconst (v := (-4)) rfl ?_
          refine qv_goto (tgt := 5) rfl ?_
          refine qW.blk rfl ?_
          refine qv_iret (rfl) ?_
          exact fin t1 F1
        · have hv2 : ftv B (aS A l).2.2.1 (aC A 0) = nI (sA (pp B (aS A l).2.2.1 (aC A 0) 6 p00).2) := by
            unfold ftv at hv ⊢
            by_cases q : (pp B (aS A l).2.2.1 (aC A 0) 6 p00).1 = 1 ∧ sA (pp B (aS A l).2.2.1 (aC A 0) 6 p00).2 = (aS A l).2.2.1
            · rw [if_pos q] at hv; exact absurd rfl hv
            · rw [if_neg q]
          rw [if_neg hv] at fin
          refine qW.blk rfl ?_
          refine qv_aload rfl ?_
          refine qv_iconst (v := 0) rfl ?_
          refine qv_pi ly_163 ⟨rfl, rfl, rfl⟩ (rfl) ?_
          refine qv_aload rfl ?_
          refine qv_iload rfl ?_
          refine qv_virt (ly_163.rcv _) sg_Model_lacks rfl rfl (w_M_lacks hP (by omega) hl8 c1 s1 (fun _ => c3) s2 ?_) 
          refine qv_istore (L' := [_, _, _, _]) rfl ?_
          refine qv_iload rfl ?_
          refine qv_if_ge_t (by rw [hr0]; decide) (tgt := 2) rfl ?_
          refine qW.blk rfl ?_
          refine qv_aload rfl ?_
          refine qv_iload rfl ?_
          refine qv_virt (ly_163.rcv _) sg_Model_faultOf rfl rfl (w_M_faultOf hP (by omega) hl8 s3 hn1 hn7 c4 (J1.1 0 (by decide)) hBs (fun t1 F1 q1 => ?_)) 
          refine qv_istore (L' := [_, _, _, _]) rfl ?_
          refine qv_iload rfl ?_
          refine qv_if_ge_t (by rw [hv2]; exact nI_pos' (by omega)) (tgt := 4) rfl ?_
          refine qW.blk rfl ?_
          refine qv_iload rfl ?_
          refine qv_nil (nx := 5) rfl ?_
          refine qW.blk rfl ?_
          refine qv_iret (rfl) ?_
          exact fin t1 F1
    · refine ⟨.int (refB (aS A l).1 (aS A l).2.1), A, hA, ?_, ?_⟩
      · intro s Q hJ hk
        obtain ⟨c1, c2, -⟩ := hJ.2.2.2.2 l hl8
        refine qP.of (L := [_, _, _, _, _]) (by omega) (hP _ rfl) ms_Desk_fault rfl ?_
        show qW X PR (d - 1) (some .int) cd_Desk_fault 0 _ _ _ _
        refine qW.blk rfl ?_
        refine qv_aload rfl ?_
        refine qv_iload rfl ?_
        refine qv_virtE (ly_8.rcv _) sg_Desk_shelfAt rfl rfl (r_shelfAt_y hP (by omega) hl8) ?_
        refine qv_astore (L' := [_, _, _, _, _]) rfl ?_
        refine qv_aload rfl ?_
        refine qv_iconst (v := 3) rfl ?_
        refine qv_staticE sg_Desk_refusalOf rfl (r_bytesRefusal hP (by omega) hl8 c1 s1 (fun z => (c2 z).1) s2) ?_
        refine qv_istore (L' := [_, _, _, _, _]) rfl ?_
        refine qv_aload rfl ?_
        refine qv_null_f (nx := 1) rfl ?_
        refine qW.blk rfl ?_
        refine qv_iload rfl ?_
        refine qv_if_eq_f (hr) (nx := 2) rfl ?_
        refine qW.blk rfl ?_
        refine qv_iload rfl ?_
        refine qv_iret (rfl) ?_
        exact hk s hJ (cfr.rf s)
      · intro s Q hJ hk
        have J1 := hJ.thr (v := 0)
        obtain ⟨c1, c2, -⟩ := J1.2.2.2.2.1 l hl8
        refine qP.of (L := [_, _, _, _]) (by omega) (hP _ rfl) ms_Model_fault rfl ?_
        show qW X PR (d - 1) (some .int) cd_Model_fault 0 _ _ _ _
        refine qW.blk rfl ?_
        refine qv_aload rfl ?_
        refine qv_iconst (v := 0) rfl ?_
        refine qv_pi ly_163 ⟨rfl, rfl, rfl⟩ (rfl) ?_
        refine qv_aload rfl ?_
        refine qv_iload rfl ?_
        refine qv_virt (ly_163.rcv _) sg_Model_lacks rfl rfl (w_M_lacks hP (by omega) hl8 c1 s1 (fun z => (c2 z).1) s2 ?_) 
        refine qv_istore (L' := [_, _, _, _]) rfl ?_
        refine qv_iload rfl ?_
        refine qv_if_ge_f (refB_neg hr) (nx := 1) rfl ?_
        refine qW.blk rfl ?_
        refine qv_iload rfl ?_
        refine qv_iret (rfl) ?_
        exact hk (uF s 163 0 0) J1 ((qfr.rf s).uF (by omega))
  · refine ⟨.int (-1), A, hA, ?_, ?_⟩
    · intro s Q hJ hk
      refine qP.of (L := [_, _, _, _, _]) (by omega) (hP _ rfl) ms_Desk_fault rfl ?_
      show qW X PR (d - 1) (some .int) cd_Desk_fault 0 _ _ _ _
      refine qW.blk rfl ?_
      refine qv_aload rfl ?_
      refine qv_iload rfl ?_
      refine qv_virtE (ly_8.rcv _) sg_Desk_shelfAt rfl rfl (r_shelfAt_n hP (by omega) hnb) ?_
      refine qv_astoreN (L' := [_, _, _, _, _]) rfl ?_
      refine qv_aloadN rfl ?_
      refine qv_iconst (v := 3) rfl ?_
      refine qv_staticE sg_Desk_refusalOf rfl (r_refusalNull hP (by omega) _) ?_
      refine qv_istore (L' := [_, _, _, _, _]) rfl ?_
      refine qv_aloadN rfl ?_
      refine qv_null_t (tgt := 2) rfl ?_
      refine qW.blk rfl ?_
      refine qv_iload rfl ?_
      refine qv_iret (rfl) ?_
      exact hk s hJ (cfr.rf s)
    · intro s Q hJ hk
      have J1 := hJ.thr (v := 0)
      refine qP.of (L := [_, _, _, _]) (by omega) (hP _ rfl) ms_Model_fault rfl ?_
      show qW X PR (d - 1) (some .int) cd_Model_fault 0 _ _ _ _
      refine qW.blk rfl ?_
      refine qv_aload rfl ?_
      refine qv_iconst (v := 0) rfl ?_
      refine qv_pi ly_163 ⟨rfl, rfl, rfl⟩ (rfl) ?_
      refine qv_aload rfl ?_
      refine qv_iload rfl ?_
      refine qv_virt (ly_163.rcv _) sg_Model_lacks rfl rfl (w_M_lacks_no hP (by omega) hnb ?_) 
      refine qv_istore (L' := [_, _, _, _]) rfl ?_
      refine qv_iload rfl ?_
      refine qv_if_ge_f (by decide) (nx := 1) rfl ?_
      refine qW.blk rfl ?_
      refine qv_iload rfl ?_
      refine qv_iret (rfl) ?_
      exact hk (uF s 163 0 0) J1 ((qfr.rf s).uF (by omega))
end
