/-! top is alike, the rest -/
/-- every END is reached from x -/
def tops (W : VW) (n x : Nat) : Prop := ∀ y, y < n → RS W n x y
/-- some END beats x and all that x beats -/
def covd (W : VW) (n x : Nat) : Prop := ∃ z, z < n ∧ gbts W z x ∧ ∀ w, w < n → gbts W x w → gbts W z w
/-- some END beats all of a set -/
def btw (W : VW) (n T : Nat) : Prop := ∃ z, z < n ∧ ov W n z &&& T = T
theorem covd_btw {W : VW} {n x : Nat} (hn : n ≤ 7) (hx : x < n) : btw W n (ov W n x ||| 2 ^ x) ↔ covd W n x := by
  have hsub : ∀ z, (ov W n z &&& (ov W n x ||| 2 ^ x) = ov W n x ||| 2 ^ x) ↔ (gbts W z x ∧ ∀ w, w < n → gbts W x w → gbts W z w) := by
    intro z
    rw [sub_and]
    constructor
    · intro h
      refine ⟨((ov_bit (by omega) (by omega)).mp (h x (btn_or.mpr (Or.inr rfl)))).2, fun w hw hg => ?_⟩
      exact ((ov_bit (by omega) (by omega)).mp (h w (btn_or.mpr (Or.inl ((ov_bit (by omega) (by omega)).mpr ⟨hw, hg⟩))))).2
    · rintro ⟨h1, h2⟩ y hy
      rcases btn_or.mp hy with q | q
      · have hy8 : y < 8 := by
          refine Classical.byContradiction fun z => ?_
          have h2 : (128 : Nat) ≤ 2 ^ y := Nat.le_trans (by decide : (128 : Nat) ≤ 2 ^ 7) (Nat.pow_le_pow_right (by omega) (by omega))
          have := Nat.testBit_lt_two_pow (Nat.lt_of_lt_of_le (ov_lt (W := W) (n := n) (x := x) (by omega)) h2)
          rw [btn_tb, this] at q
          cases q
        obtain ⟨q1, q2⟩ := (ov_bit (by omega) hy8).mp q
        exact (ov_bit (by omega) hy8).mpr ⟨q1, h2 y q1 q2⟩
      · subst q
        exact (ov_bit (by omega) (by omega)).mpr ⟨hx, h1⟩
  unfold btw covd
  constructor
  · rintro ⟨z, h1, h2⟩; exact ⟨z, h1, (hsub z).mp h2⟩
  · rintro ⟨z, h1, h2⟩; exact ⟨z, h1, (hsub z).mpr h2⟩
section
variable {X : pm_X} {PR : pm_P} {s : QST} {Q : QPost}
theorem w_isBeatenWhole (hP : pm_np PR) {d : Nat} (hd : 1 ≤ d) {W : VW} {n T : Nat} (hw : wgh s W n) (hn : n ≤ 7) (hT : T < 128) [hdec : Decidable (btw W n T)] (hk : Q (some (.int (bI (btw W n T)))) s) : qP X PR d 58 [.ref 111, .int (nI T)] s Q := by
  obtain ⟨g1, g2, g3⟩ := hw
  refine qP.of (L := [_, _, _]) (by omega) (hP _ rfl) ms_Orders_isBeatenWhole rfl ?_
  show qW X PR (d - 1) (some .boolean) cd_Orders_isBeatenWhole 0 _ _ _ _
  have loop : ∀ (c x : Nat), x + c = n → (∀ z, z < x → ¬ ov W n z &&& T = T) → qW X PR (d - 1) (some .boolean) cd_Orders_isBeatenWhole 1 [some (.ref (111)), some (.int (nI T)), some (.int (nI x))] [] s Q := by
    intro c
    induction c with
    | zero =>
      intro x hx hno
      have e : x = n := by omega
      subst e
      have hnb : ¬ btw W x T := fun ⟨z, h1, h2⟩ => hno z h1 h2
      rw [bI_f hnb] at hk
      refine qW.blk rfl ?_
      refine qv_iload rfl ?_
      refine qv_aload rfl ?_
      refine qv_gi ly_111 ⟨rfl, rfl, rfl⟩ (g1) ?_
      refine qv_icmp_geNt rfl rfl (by omega) (by omega) (by omega) (tgt := 5) rfl ?_
      refine qW.blk rfl ?_
      refine qv_iconst (v := 0) rfl ?_
      refine qv_iret (by first | exact bI_ret | rfl) ?_
      exact hk
    | succ c ih =>
      intro x hx hno
      have hl := ov_lt (W := W) (n := n) (x := x) (by omega)
      have ha := and_N (a := ov W n x) (b := T) (by omega) (by omega)
      by_cases hb : ov W n x &&& T = T
      · rw [bI_t ⟨x, by omega, hb⟩] at hk
        refine qW.blk rfl ?_
        refine qv_iload rfl ?_
        refine qv_aload rfl ?_
        refine qv_gi ly_111 ⟨rfl, rfl, rfl⟩ (g1) ?_
        refine qv_icmp_geNf rfl rfl (by omega) (by omega) (by omega) (nx := 2) rfl ?_
        refine qW.blk rfl ?_
        refine qv_aload rfl ?_
        refine qv_gr ly_111 ⟨rfl, rfl, rfl⟩ (by omega) ?_
        refine qv_iload rfl ?_
        refine qv_ia ly_112 rfl (by omega) (by decide) (g3 x (by omega)) ?_
        refine qv_iload rfl ?_
        refine qv_iand ?_
        refine qv_iload rfl ?_
        refine qv_icmp_ne_f (fun q => q (ha.trans (congrArg nI hb))) (nx := 3) rfl ?_
        refine qW.blk rfl ?_
        refine qv_iconst (v := 1) rfl ?_
        refine qv_iret (by first | exact bI_ret | rfl) ?_
        exact hk
      · refine qW.blk rfl ?_
        refine qv_iload rfl ?_
        refine qv_aload rfl ?_
        refine qv_gi ly_111 ⟨rfl, rfl, rfl⟩ (g1) ?_
        refine qv_icmp_geNf rfl rfl (by omega) (by omega) (by omega) (nx := 2) rfl ?_
        refine qW.blk rfl ?_
        refine qv_aload rfl ?_
        refine qv_gr ly_111 ⟨rfl, rfl, rfl⟩ (by omega) ?_
        refine qv_iload rfl ?_
        refine qv_ia ly_112 rfl (by omega) (by decide) (g3 x (by omega)) ?_
        refine qv_iload rfl ?_
        refine qv_iand ?_
        refine qv_iload rfl ?_
        refine qv_icmp_ne_t (fun q => hb ((nI_eq (by have := Nat.and_le_left (n := ov W n x) (m := T); omega) (by omega)).mp (ha.symm.trans q))) (tgt := 4) rfl ?_
        refine qW.blk rfl ?_
        refine qv_iinc (L' := [_, _, _]) rfl (nI_succ _).symm rfl ?_
        refine qv_goto (tgt := 1) rfl ?_
        refine ih (x + 1) (by omega) (fun z hz => ?_)
        by_cases e : z = x
        · subst e; exact hb
        · exact hno z (by omega)
  refine qW.blk rfl ?_
  refine qv_iconst (v := 0) rfl ?_
  refine qv_istore (L' := [_, _, _]) rfl ?_
  refine qv_nil (nx := 1) rfl ?_
  exact loop n 0 (by omega) (fun z hz => absurd hz (Nat.not_lt_zero _))
theorem w_uncoveredBits (hP : pm_np PR) {d : Nat} (hd : 2 ≤ d) {W : VW} {n : Nat} (hw : wgh s W n) (hn : n ≤ 7) [hdec : ∀ x, Decidable (¬ covd W n x)] (hk : Q (some (.int (nI (bsN (fun x => ¬ covd W n x) n)))) s) : qP X PR d 67 [.ref 111] s Q := by
  obtain ⟨hdb⟩ : Nonempty (∀ T, Decidable (btw W n T)) := ⟨fun _ => Classical.propDecidable _⟩
  have hw' := hw
  obtain ⟨g1, g2, g3⟩ := hw
  refine qP.of (L := [_, _, _]) (by omega) (hP _ rfl) ms_Orders_uncoveredBits rfl ?_
  show qW X PR (d - 1) (some .int) cd_Orders_uncoveredBits 0 _ _ _ _
  have loop : ∀ (c x : Nat), x + c = n → qW X PR (d - 1) (some .int) cd_Orders_uncoveredBits 1 [some (.ref (111)), some (.int (nI (bsN (fun x => ¬ covd W n x) x))), some (.int (nI x))] [] s Q := by
    intro c
    induction c with
    | zero =>
      intro x hx
      have e : x = n := by omega
      subst e
      refine qW.blk rfl ?_
      refine qv_iload rfl ?_
      refine qv_aload rfl ?_
      refine qv_gi ly_111 ⟨rfl, rfl, rfl⟩ (g1) ?_
      refine qv_icmp_geNt rfl rfl (by omega) (by omega) (by omega) (tgt := 5) rfl ?_
      refine qW.blk rfl ?_
      refine qv_iload rfl ?_
      refine qv_iret (rfl) ?_
      exact hk
    | succ c ih =>
      intro x hx
      obtain ⟨o1, o2⟩ := or7 (u := x) (by omega) (ov_lt (W := W) (n := n) (x := x) (by omega))
      have hb := bsN_or (P := fun x => ¬ covd W n x) (n := x) (by omega)
      have nx := ih (x + 1) (by omega)
      have w : ∀ (d : Nat) (Q : QPost), 1 ≤ d → Q (some (.int (bI (btw W n (ov W n x ||| 2 ^ x))))) s → qP X PR d 58 [.ref 111, .int (nI (ov W n x) ||| (1 <<< (nI x &&& 31)))] s Q := by
        intro d Q hd hq
        rw [o1]
        exact w_isBeatenWhole hP hd hw' hn o2 hq
      by_cases hc : covd W n x
      · have e2 := hb.2 (fun z => z hc)
        rw [← e2] at nx
        refine qW.blk rfl ?_
        refine qv_iload rfl ?_
        refine qv_aload rfl ?_
        refine qv_gi ly_111 ⟨rfl, rfl, rfl⟩ (g1) ?_
        refine qv_icmp_geNf rfl rfl (by omega) (by omega) (by omega) (nx := 2) rfl ?_
        refine qW.blk rfl ?_
        refine qv_aload rfl ?_
        refine qv_aload rfl ?_
        refine qv_gr ly_111 ⟨rfl, rfl, rfl⟩ (by omega) ?_
        refine qv_iload rfl ?_
        refine qv_ia ly_112 rfl (by omega) (by decide) (g3 x (by omega)) ?_
        refine qv_iconst (v := 1) rfl ?_
        refine qv_iload rfl ?_
        refine qv_ishl ?_
        refine qv_ior ?_
        refine qv_virt (ly_111.rcv _) sg_Orders_isBeatenWhole rfl rfl (w _ _ (by omega) ?_) 
        refine qv_if_ne_t (bI_ne.mpr ((covd_btw hn (by omega)).mpr hc)) (tgt := 4) rfl ?_
        refine qW.blk rfl ?_
        refine qv_iinc (L' := [_, _, _]) rfl (nI_succ _).symm rfl ?_
        refine qv_goto (tgt := 1) rfl ?_
        exact nx
      · have e2 := hb.1 hc
        refine qW.blk rfl ?_
        refine qv_iload rfl ?_
        refine qv_aload rfl ?_
        refine qv_gi ly_111 ⟨rfl, rfl, rfl⟩ (g1) ?_
        refine qv_icmp_geNf rfl rfl (by omega) (by omega) (by omega) (nx := 2) rfl ?_
        refine qW.blk rfl ?_
        refine qv_aload rfl ?_
        refine qv_aload rfl ?_
        refine qv_gr ly_111 ⟨rfl, rfl, rfl⟩ (by omega) ?_
        refine qv_iload rfl ?_
        refine qv_ia ly_112 rfl (by omega) (by decide) (g3 x (by omega)) ?_
        refine qv_iconst (v := 1) rfl ?_
        refine qv_iload rfl ?_
        refine qv_ishl ?_
        refine qv_ior ?_
        refine qv_virt (ly_111.rcv _) sg_Orders_isBeatenWhole rfl rfl (w _ _ (by omega) ?_) 
        refine qv_if_ne_f (fun zq => zq (bI_f (fun q => hc ((covd_btw hn (by omega)).mp q)))) (nx := 3) rfl ?_
        refine qW.blk rfl ?_
        refine qv_iload rfl ?_
        refine qv_iconst (v := 1) rfl ?_
        refine qv_iload rfl ?_
        refine qv_ishl ?_
        refine qv_ior ?_
        refine qv_top (e2) ?_
        refine qv_istore (L' := [_, _, _]) rfl ?_
        refine qv_nil (nx := 4) rfl ?_
        refine qW.blk rfl ?_
        refine qv_iinc (L' := [_, _, _]) rfl (nI_succ _).symm rfl ?_
        refine qv_goto (tgt := 1) rfl ?_
        exact nx
  refine qW.blk rfl ?_
  refine qv_iconst (v := 0) rfl ?_
  refine qv_istore (L' := [_, _, _]) rfl ?_
  refine qv_iconst (v := 0) rfl ?_
  refine qv_istore (L' := [_, _, _]) rfl ?_
  refine qv_nil (nx := 1) rfl ?_
  exact loop n 0 (by omega)
theorem w_topBits (hP : pm_np PR) {d : Nat} (hd : 2 ≤ d) {W : VW} {n : Nat} (hw : wgh s W n) (hn : n ≤ 7) [hdec : ∀ x, Decidable (tops W n x)] (hk : Q (some (.int (nI (bsN (tops W n) n)))) s) : qP X PR d 59 [.ref 111] s Q := by
  have hw' := hw
  obtain ⟨g1, g2, g3⟩ := hw
  refine qP.of (L := [_, _, _]) (by omega) (hP _ rfl) ms_Orders_topBits rfl ?_
  show qW X PR (d - 1) (some .int) cd_Orders_topBits 0 _ _ _ _
  have loop : ∀ (c x : Nat), x + c = n → qW X PR (d - 1) (some .int) cd_Orders_topBits 1 [some (.ref (111)), some (.int (nI (bsN (tops W n) x))), some (.int (nI x))] [] s Q := by
    intro c
    induction c with
    | zero =>
      intro x hx
      have e : x = n := by omega
      subst e
      refine qW.blk rfl ?_
      refine qv_iload rfl ?_
      refine qv_aload rfl ?_
      refine qv_gi ly_111 ⟨rfl, rfl, rfl⟩ (g1) ?_
      refine qv_icmp_geNt rfl rfl (by omega) (by omega) (by omega) (tgt := 5) rfl ?_
      refine qW.blk rfl ?_
      refine qv_iload rfl ?_
      refine qv_iret (rfl) ?_
      exact hk
    | succ c ih =>
      intro x hx
      have hb := bsN_or (P := tops W n) (n := x) (by omega)
      have ha := (all_bit n (by omega)).2
      have nx := ih (x + 1) (by omega)
      refine qW.blk rfl ?_
      refine qv_iload rfl ?_
      refine qv_aload rfl ?_
      refine qv_gi ly_111 ⟨rfl, rfl, rfl⟩ (g1) ?_
      refine qv_icmp_geNf rfl rfl (by omega) (by omega) (by omega) (nx := 2) rfl ?_
      by_cases hc : tops W n x
      · have e2 := hb.1 hc
        refine qW.blk rfl ?_
        refine qv_aload rfl ?_
        refine qv_iload rfl ?_
        refine qv_virt (ly_111.rcv _) sg_Orders_reachedFrom rfl rfl (w_reachedFrom hP (by omega) hw' hn (by omega) (fun T hT1 hT2 => ?_)) 
        refine qv_aload rfl ?_
        refine qv_gi ly_111 ⟨rfl, rfl, rfl⟩ (g2) ?_
        refine qv_icmp_ne_f (fun q => q (congrArg nI ((RS_all hn (by omega) hT1 hT2).mpr hc))) (nx := 3) rfl ?_
        refine qW.blk rfl ?_
        refine qv_iload rfl ?_
        refine qv_iconst (v := 1) rfl ?_
        refine qv_iload rfl ?_
        refine qv_ishl ?_
        refine qv_ior ?_
        refine qv_top (e2) ?_
        refine qv_istore (L' := [_, _, _]) rfl ?_
        refine qv_nil (nx := 4) rfl ?_
        refine qW.blk rfl ?_
        refine qv_iinc (L' := [_, _, _]) rfl (nI_succ _).symm rfl ?_
        refine qv_goto (tgt := 1) rfl ?_
        exact nx
      · have e2 := hb.2 hc
        rw [← e2] at nx
        refine qW.blk rfl ?_
        refine qv_aload rfl ?_
        refine qv_iload rfl ?_
        refine qv_virt (ly_111.rcv _) sg_Orders_reachedFrom rfl rfl (w_reachedFrom hP (by omega) hw' hn (by omega) (fun T hT1 hT2 => ?_)) 
        refine qv_aload rfl ?_
        refine qv_gi ly_111 ⟨rfl, rfl, rfl⟩ (g2) ?_
        refine qv_icmp_ne_t (fun q => hc ((RS_all hn (by omega) hT1 hT2).mp ((nI_eq (by omega) (by omega)).mp q))) (tgt := 4) rfl ?_
        refine qW.blk rfl ?_
        refine qv_iinc (L' := [_, _, _]) rfl (nI_succ _).symm rfl ?_
        refine qv_goto (tgt := 1) rfl ?_
        exact nx
  refine qW.blk rfl ?_
  refine qv_iconst (v := 0) rfl ?_
  refine qv_istore (L' := [_, _, _]) rfl ?_
  refine qv_iconst (v := 0) rfl ?_
  refine qv_istore (L' := [_, _, _]) rfl ?_
  refine qv_nil (nx := 1) rfl ?_
  exact loop n 0 (by omega)
theorem w_M_isCovered (hP : pm_np PR) {d : Nat} (hd : 6 ≤ d) {N n x : Nat} {W : VW} (hv : rview s N W) (e0 : qE s 164 0 = nI n) (hn : n ≤ 7) (hx : x < n) [hdec : Decidable (covd W n x)] (hk : Q (some (.int (bI (covd W n x)))) s) : qP X PR d 227 [.ref 163, .int (nI x)] s Q := by
  refine qP.of (L := [_, _, _, _, _, _]) (by omega) (hP _ rfl) ms_Model_isCovered rfl ?_
  show qW X PR (d - 1) (some .boolean) cd_Model_isCovered 0 _ _ _ _
  have inner : ∀ (z f : Nat), z < n → f < 2 → (∀ o, o < 2 → (o = 1 ↔ (gbts W z x ∧ ∀ w, w < n → gbts W x w → gbts W z w)) → qW X PR (d - 1) (some .boolean) cd_Model_isCovered 10 [some (.ref (163)), some (.int (nI x)), some (.int (nI f)), some (.int (nI z)), some (.int (nI o)), some (.int (nI n))] [] s Q) → ∀ (c w o : Nat), w + c = n → o < 2 → (o = 1 ↔ (gbts W z x ∧ ∀ w', w' < w → gbts W x w' → gbts W z w')) → qW X PR (d - 1) (some .boolean) cd_Model_isCovered 3 [some (.ref (163)), some (.int (nI x)), some (.int (nI f)), some (.int (nI z)), some (.int (nI o)), some (.int (nI w))] [] s Q := by
    intro z f hz hf k10 c
    induction c with
    | zero =>
      intro w o hw ho hiff
      have e : w = n := by omega
      subst e
      refine qW.blk rfl ?_
      refine qv_iload rfl ?_
      refine qv_aload rfl ?_
      refine qv_gr ly_163 ⟨rfl, rfl, rfl⟩ (by omega) ?_
      refine qv_iconst (v := 0) rfl ?_
      refine qv_ia (j := 0) ly_164 rfl (by omega) (by decide) (e0) ?_
      refine qv_icmp_geNt rfl rfl (by omega) (by omega) (by omega) (tgt := 10) rfl ?_
      exact k10 o ho hiff
    | succ c ih =>
      intro w o hw ho hiff
      rcases (show o = 0 ∨ o = 1 by omega) with h | h
      · subst h
        refine qW.blk rfl ?_
        refine qv_iload rfl ?_
        refine qv_aload rfl ?_
        refine qv_gr ly_163 ⟨rfl, rfl, rfl⟩ (by omega) ?_
        refine qv_iconst (v := 0) rfl ?_
        refine qv_ia (j := 0) ly_164 rfl (by omega) (by decide) (e0) ?_
        refine qv_icmp_geNf rfl rfl (by omega) (by omega) (by omega) (nx := 4) rfl ?_
        refine qW.blk rfl ?_
        refine qv_iload rfl ?_
        refine qv_if_eq_t (rfl) (tgt := 8) rfl ?_
        refine qW.blk rfl ?_
        refine qv_iconst (v := 0) rfl ?_
        refine qv_nil (nx := 9) rfl ?_
        refine qW.blk rfl ?_
        refine qv_istore (L' := [_, _, _, _, _, _]) rfl ?_
        refine qv_iinc (L' := [_, _, _, _, _, _]) rfl (nI_succ _).symm rfl ?_
        refine qv_goto (tgt := 3) rfl ?_
        exact ih (w + 1) 0 (by omega) (by omega) ⟨fun q => absurd q (by decide), fun q => hiff.mpr ⟨q.1, fun w' h1 h2 => q.2 w' (by omega) h2⟩⟩
      · subst h
        have hal := hiff.mp rfl
        by_cases hb : gbts W x w
        · by_cases hb2 : gbts W z w
          · refine qW.blk rfl ?_
            refine qv_iload rfl ?_
            refine qv_aload rfl ?_
            refine qv_gr ly_163 ⟨rfl, rfl, rfl⟩ (by omega) ?_
            refine qv_iconst (v := 0) rfl ?_
            refine qv_ia (j := 0) ly_164 rfl (by omega) (by decide) (e0) ?_
            refine qv_icmp_geNf rfl rfl (by omega) (by omega) (by omega) (nx := 4) rfl ?_
            refine qW.blk rfl ?_
            refine qv_iload rfl ?_
            refine qv_if_eq_f (by decide) (nx := 5) rfl ?_
            refine qW.blk rfl ?_
            refine qv_aload rfl ?_
            refine qv_iload rfl ?_
            refine qv_iload rfl ?_
            refine qv_virtE (ly_163.rcv _) sg_Model_beats rfl rfl (r_M_bts hP (by omega) hv (by omega) (by omega)) ?_
            refine qv_if_eq_f (bI_ne.mpr (hb)) (nx := 6) rfl ?_
            refine qW.blk rfl ?_
            refine qv_aload rfl ?_
            refine qv_iload rfl ?_
            refine qv_iload rfl ?_
            refine qv_virtE (ly_163.rcv _) sg_Model_beats rfl rfl (r_M_bts hP (by omega) hv (by omega) (by omega)) ?_
            refine qv_if_eq_f (bI_ne.mpr (hb2)) (nx := 7) rfl ?_
            refine qW.blk rfl ?_
            refine qv_iconst (v := 1) rfl ?_
            refine qv_goto (tgt := 9) rfl ?_
            refine qW.blk rfl ?_
            refine qv_istore (L' := [_, _, _, _, _, _]) rfl ?_
            refine qv_iinc (L' := [_, _, _, _, _, _]) rfl (nI_succ _).symm rfl ?_
            refine qv_goto (tgt := 3) rfl ?_
            refine ih (w + 1) 1 (by omega) (by omega) ⟨fun _ => ⟨hal.1, fun w' h1 h2 => ?_⟩, fun _ => rfl⟩
            by_cases e : w' = w
            · subst e; exact hb2
            · exact hal.2 w' (by omega) h2
          · refine qW.blk rfl ?_
            refine qv_iload rfl ?_
            refine qv_aload rfl ?_
            refine qv_gr ly_163 ⟨rfl, rfl, rfl⟩ (by omega) ?_
            refine qv_iconst (v := 0) rfl ?_
            refine qv_ia (j := 0) ly_164 rfl (by omega) (by decide) (e0) ?_
            refine qv_icmp_geNf rfl rfl (by omega) (by omega) (by omega) (nx := 4) rfl ?_
            refine qW.blk rfl ?_
            refine qv_iload rfl ?_
            refine qv_if_eq_f (by decide) (nx := 5) rfl ?_
            refine qW.blk rfl ?_
            refine qv_aload rfl ?_
            refine qv_iload rfl ?_
            refine qv_iload rfl ?_
            refine qv_virtE (ly_163.rcv _) sg_Model_beats rfl rfl (r_M_bts hP (by omega) hv (by omega) (by omega)) ?_
            refine qv_if_eq_f (bI_ne.mpr (hb)) (nx := 6) rfl ?_
            refine qW.blk rfl ?_
            refine qv_aload rfl ?_
            refine qv_iload rfl ?_
            refine qv_iload rfl ?_
            refine qv_virtE (ly_163.rcv _) sg_Model_beats rfl rfl (r_M_bts hP (by omega) hv (by omega) (by omega)) ?_
            refine qv_if_eq_t (bI_f (hb2)) (tgt := 8) rfl ?_
            refine qW.blk rfl ?_
            refine qv_iconst (v := 0) rfl ?_
            refine qv_nil (nx := 9) rfl ?_
            refine qW.blk rfl ?_
            refine qv_istore (L' := [_, _, _, _, _, _]) rfl ?_
            refine qv_iinc (L' := [_, _, _, _, _, _]) rfl (nI_succ _).symm rfl ?_
            refine qv_goto (tgt := 3) rfl ?_
            exact ih (w + 1) 0 (by omega) (by omega) ⟨fun q => absurd q (by decide), fun q => absurd (q.2 w (by omega) hb) hb2⟩
        · refine qW.blk rfl ?_
          refine qv_iload rfl ?_
          refine qv_aload rfl ?_
          refine qv_gr ly_163 ⟨rfl, rfl, rfl⟩ (by omega) ?_
          refine qv_iconst (v := 0) rfl ?_
          refine qv_ia (j := 0) ly_164 rfl (by omega) (by decide) (e0) ?_
          refine qv_icmp_geNf rfl rfl (by omega) (by omega) (by omega) (nx := 4) rfl ?_
          refine qW.blk rfl ?_
          refine qv_iload rfl ?_
          refine qv_if_eq_f (by decide) (nx := 5) rfl ?_
          refine qW.blk rfl ?_
          refine qv_aload rfl ?_
          refine qv_iload rfl ?_
          refine qv_iload rfl ?_
          refine qv_virtE (ly_163.rcv _) sg_Model_beats rfl rfl (r_M_bts hP (by omega) hv (by omega) (by omega)) ?_
          refine qv_if_eq_t (bI_f (hb)) (tgt := 7) rfl ?_
          refine qW.blk rfl ?_
          refine qv_iconst (v := 1) rfl ?_
          refine qv_goto (tgt := 9) rfl ?_
          refine qW.blk rfl ?_
          refine qv_istore (L' := [_, _, _, _, _, _]) rfl ?_
          refine qv_iinc (L' := [_, _, _, _, _, _]) rfl (nI_succ _).symm rfl ?_
          refine qv_goto (tgt := 3) rfl ?_
          refine ih (w + 1) 1 (by omega) (by omega) ⟨fun _ => ⟨hal.1, fun w' h1 h2 => ?_⟩, fun _ => rfl⟩
          by_cases e : w' = w
          · subst e; exact absurd h2 hb
          · exact hal.2 w' (by omega) h2
  have loop : ∀ (c z f : Nat) (L4 L5 : Option Value), z + c = n → f < 2 → (f = 1 ↔ ∃ z', z' < z ∧ gbts W z' x ∧ ∀ w, w < n → gbts W x w → gbts W z' w) → qW X PR (d - 1) (some .boolean) cd_Model_isCovered 1 [some (.ref (163)), some (.int (nI x)), some (.int (nI f)), some (.int (nI z)), L4, L5] [] s Q := by
    intro c
    induction c with
    | zero =>
      intro z f L4 L5 hz hf hiff
      have e : z = n := by omega
      subst e
      rcases (show f = 0 ∨ f = 1 by omega) with h | h
      · subst h
        have hnc : ¬ covd W z x := fun q => absurd (hiff.mpr q) (by decide)
        rw [bI_f hnc] at hk
        refine qW.blk rfl ?_
        refine qv_iload rfl ?_
        refine qv_aload rfl ?_
        refine qv_gr ly_163 ⟨rfl, rfl, rfl⟩ (by omega) ?_
        refine qv_iconst (v := 0) rfl ?_
        refine qv_ia (j := 0) ly_164 rfl (by omega) (by decide) (e0) ?_
        refine qv_icmp_geNt rfl rfl (by omega) (by omega) (by omega) (tgt := 15) rfl ?_
        refine qW.blk rfl ?_
        refine qv_iload rfl ?_
        refine qv_iret (rfl) ?_
        exact hk
      · subst h
        have hnc : covd W z x := hiff.mp rfl
        rw [bI_t hnc] at hk
        refine qW.blk rfl ?_
        refine qv_iload rfl ?_
        refine qv_aload rfl ?_
        refine qv_gr ly_163 ⟨rfl, rfl, rfl⟩ (by omega) ?_
        refine qv_iconst (v := 0) rfl ?_
        refine qv_ia (j := 0) ly_164 rfl (by omega) (by decide) (e0) ?_
        refine qv_icmp_geNt rfl rfl (by omega) (by omega) (by omega) (tgt := 15) rfl ?_
        refine qW.blk rfl ?_
        refine qv_iload rfl ?_
        refine qv_iret (rfl) ?_
        exact hk
    | succ c ih =>
      intro z f L4 L5 hz hf hiff
      have k10 : ∀ o, o < 2 → (o = 1 ↔ (gbts W z x ∧ ∀ w, w < n → gbts W x w → gbts W z w)) → qW X PR (d - 1) (some .boolean) cd_Model_isCovered 10 [some (.ref (163)), some (.int (nI x)), some (.int (nI f)), some (.int (nI z)), some (.int (nI o)), some (.int (nI n))] [] s Q := by
        intro o ho hio
        rcases (show f = 0 ∨ f = 1 by omega) with h | h
        · subst h
          have h0 : ¬ ∃ z', z' < z ∧ gbts W z' x ∧ ∀ w, w < n → gbts W x w → gbts W z' w := fun q => absurd (hiff.mpr q) (by decide)
          rcases (show o = 0 ∨ o = 1 by omega) with h' | h'
          · subst h'
            refine qW.blk rfl ?_
            refine qv_iload rfl ?_
            refine qv_if_ne_f (fun q => q rfl) (nx := 11) rfl ?_
            refine qW.blk rfl ?_
            refine qv_iload rfl ?_
            refine qv_if_eq_t (rfl) (tgt := 13) rfl ?_
            refine qW.blk rfl ?_
            refine qv_iconst (v := 0) rfl ?_
            refine qv_nil (nx := 14) rfl ?_
            refine qW.blk rfl ?_
            refine qv_istore (L' := [_, _, _, _, _, _]) rfl ?_
            refine qv_iinc (L' := [_, _, _, _, _, _]) rfl (nI_succ _).symm rfl ?_
            refine qv_goto (tgt := 1) rfl ?_
            refine ih (z + 1) 0 _ _ (by omega) (by omega) ⟨fun q => absurd q (by decide), ?_⟩
            rintro ⟨z', q1, q2⟩
            by_cases e : z' = z
            · subst e; exact absurd (hio.mpr q2) (by decide)
            · exact absurd ⟨z', by omega, q2⟩ h0
          · subst h'
            refine qW.blk rfl ?_
            refine qv_iload rfl ?_
            refine qv_if_ne_f (fun q => q rfl) (nx := 11) rfl ?_
            refine qW.blk rfl ?_
            refine qv_iload rfl ?_
            refine qv_if_eq_f (by decide) (nx := 12) rfl ?_
            refine qW.blk rfl ?_
            refine qv_iconst (v := 1) rfl ?_
            refine qv_goto (tgt := 14) rfl ?_
            refine qW.blk rfl ?_
            refine qv_istore (L' := [_, _, _, _, _, _]) rfl ?_
            refine qv_iinc (L' := [_, _, _, _, _, _]) rfl (nI_succ _).symm rfl ?_
            refine qv_goto (tgt := 1) rfl ?_
            exact ih (z + 1) 1 _ _ (by omega) (by omega) ⟨fun _ => ⟨z, by omega, hio.mp rfl⟩, fun _ => rfl⟩
        · subst h
          obtain ⟨z', q1, q2⟩ := hiff.mp rfl
          refine qW.blk rfl ?_
          refine qv_iload rfl ?_
          refine qv_if_ne_t (by decide) (tgt := 12) rfl ?_
          refine qW.blk rfl ?_
          refine qv_iconst (v := 1) rfl ?_
          refine qv_goto (tgt := 14) rfl ?_
          refine qW.blk rfl ?_
          refine qv_istore (L' := [_, _, _, _, _, _]) rfl ?_
          refine qv_iinc (L' := [_, _, _, _, _, _]) rfl (nI_succ _).symm rfl ?_
          refine qv_goto (tgt := 1) rfl ?_
          exact ih (z + 1) 1 _ _ (by omega) (by omega) ⟨fun _ => ⟨z', by omega, q2⟩, fun _ => rfl⟩
      by_cases hb : gbts W z x
      · have nx := inner z f (by omega) hf k10 n 0 1 (by omega) (by omega) ⟨fun _ => ⟨hb, fun w' h => absurd h (Nat.not_lt_zero _)⟩, fun _ => rfl⟩
        refine qW.blk rfl ?_
        refine qv_iload rfl ?_
        refine qv_aload rfl ?_
        refine qv_gr ly_163 ⟨rfl, rfl, rfl⟩ (by omega) ?_
        refine qv_iconst (v := 0) rfl ?_
        refine qv_ia (j := 0) ly_164 rfl (by omega) (by decide) (e0) ?_
        refine qv_icmp_geNf rfl rfl (by omega) (by omega) (by omega) (nx := 2) rfl ?_
        refine qW.blk rfl ?_
        refine qv_aload rfl ?_
        refine qv_iload rfl ?_
        refine qv_iload rfl ?_
        refine qv_virtE (ly_163.rcv _) sg_Model_beats rfl rfl (r_M_bts hP (by omega) hv (by omega) (by omega)) ?_
        refine qv_top (bI_t hb) ?_
        refine qv_istore (L' := [_, _, _, _, _, _]) rfl ?_
        refine qv_iconst (v := 0) rfl ?_
        refine qv_istore (L' := [_, _, _, _, _, _]) rfl ?_
        refine qv_nil (nx := 3) rfl ?_
        exact nx
      · have nx := inner z f (by omega) hf k10 n 0 0 (by omega) (by omega) ⟨fun q => absurd q (by decide), fun q => absurd q.1 hb⟩
        refine qW.blk rfl ?_
        refine qv_iload rfl ?_
        refine qv_aload rfl ?_
        refine qv_gr ly_163 ⟨rfl, rfl, rfl⟩ (by omega) ?_
        refine qv_iconst (v := 0) rfl ?_
        refine qv_ia (j := 0) ly_164 rfl (by omega) (by decide) (e0) ?_
        refine qv_icmp_geNf rfl rfl (by omega) (by omega) (by omega) (nx := 2) rfl ?_
        refine qW.blk rfl ?_
        refine qv_aload rfl ?_
        refine qv_iload rfl ?_
        refine qv_iload rfl ?_
        refine qv_virtE (ly_163.rcv _) sg_Model_beats rfl rfl (r_M_bts hP (by omega) hv (by omega) (by omega)) ?_
        refine qv_top (bI_f hb) ?_
        refine qv_istore (L' := [_, _, _, _, _, _]) rfl ?_
        refine qv_iconst (v := 0) rfl ?_
        refine qv_istore (L' := [_, _, _, _, _, _]) rfl ?_
        refine qv_nil (nx := 3) rfl ?_
        exact nx
  refine qW.blk rfl ?_
  refine qv_iconst (v := 0) rfl ?_
  refine qv_istore (L' := [_, _, _, _, _, _]) rfl ?_
  refine qv_iconst (v := 0) rfl ?_
  refine qv_istore (L' := [_, _, _, _, _, _]) rfl ?_
  refine qv_nil (nx := 1) rfl ?_
  exact loop n 0 0 _ _ (by omega) (by omega) ⟨fun q => absurd q (by decide), fun ⟨z', q, _⟩ => absurd q (Nat.not_lt_zero _)⟩
end
