/-! best is alike -/
theorem all_bit : ∀ n, n < 8 → (∀ y, y < 8 → (btn (2 ^ n - 1) y ↔ y < n)) ∧ 2 ^ n - 1 < 128 := by
  intro n hn
  refine ⟨fun y hy => ?_, ?_⟩
  · rw [btn_tb, Nat.testBit_two_pow_sub_one, decide_eq_true_iff]
  · have := two_lt hn
    have : 0 < 2 ^ n := Nat.pow_pos (by omega)
    omega
/-- x beats all others of n -/
def btall (W : VW) (n x : Nat) : Prop := ∀ y, y < n → y ≠ x → gbts W x y
theorem btall_ov {W : VW} {n x : Nat} (hn : n ≤ 7) (hx : x < n) : ov W n x ||| 2 ^ x = 2 ^ n - 1 ↔ btall W n x := by
  have hl := ov_lt (W := W) (n := n) (x := x) (by omega)
  obtain ⟨a1, a2⟩ := all_bit n (by omega)
  constructor
  · intro h y hy hne
    have := (a1 y (by omega)).mpr hy
    rw [← h, btn_or, ov_bit (by omega) (by omega)] at this
    rcases this with q | q
    · exact q.2
    · exact absurd q.symm hne
  · intro h
    refine btn_ext (or7 (by omega) hl).2 a2 (fun y hy => ?_)
    rw [btn_or, ov_bit (by omega) (by omega), a1 y (by omega)]
    constructor
    · rintro (q | q)
      · exact q.1
      · omega
    · intro q
      by_cases e : y = x
      · exact Or.inr e.symm
      · exact Or.inl ⟨q, h y q e⟩
section
variable {X : pm_X} {PR : pm_P} {s : QST} {Q : QPost}
theorem w_beatsAll (hP : pm_np PR) {d : Nat} (hd : 1 ≤ d) {W : VW} {n m : Nat} (hw : wgh s W n) (hn : n ≤ 7) (hm : m ≤ n) (hall : ∀ x, x < m → ¬ btall W n x) (hlast : m = n ∨ (m < n ∧ btall W n m)) (hk : Q (some (.int (if m = n then -4 else nI m))) s) : qP X PR d 66 [.ref 111] s Q := by
  obtain ⟨g1, g2, g3⟩ := hw
  refine qP.of (L := [_, _]) (by omega) (hP _ rfl) ms_Orders_beatsAll rfl ?_
  show qW X PR (d - 1) (some .int) cd_Orders_beatsAll 0 _ _ _ _
  have loop : ∀ (c x : Nat), x + c = m → qW X PR (d - 1) (some .int) cd_Orders_beatsAll 1 [some (.ref (111)), some (.int (nI x))] [] s Q := by
    intro c
    induction c with
    | zero =>
      intro x hx
      have e : x = m := by omega
      subst e
      rcases hlast with h | ⟨h1, h2⟩
      · rw [if_pos h] at hk
        refine qW.blk rfl ?_
        refine qv_iload rfl ?_
        refine qv_aload rfl ?_
        refine qv_gi ly_111 ⟨rfl, rfl, rfl⟩ (g1) ?_
        refine qv_icmp_geNt rfl rfl (by omega) (by omega) (by omega) (tgt := 5) rfl ?_
        refine qW.blk rfl ?_
        refine qv_iconst (v := (-4)) rfl ?_
        refine qv_iret (rfl) ?_
        exact hk
      · rw [if_neg (by omega)] at hk
        have ho := (or7 (u := x) (by omega) (ov_lt (W := W) (n := n) (x := x) (by omega))).1
        refine qW.blk rfl ?_
        refine qv_iload rfl ?_
        refine qv_aload rfl ?_
        refine qv_gi ly_111 ⟨rfl, rfl, rfl⟩ (g1) ?_
        refine qv_icmp_geNf rfl rfl (by omega) (by omega) (by omega) (nx := 2) rfl ?_
        refine qW.blk rfl ?_
        refine qv_aload rfl ?_
        refine qv_gr ly_111 ⟨rfl, rfl, rfl⟩ (by omega) ?_
        refine qv_iload rfl ?_
        refine qv_ia ly_112 rfl (by omega) (by decide) (g3 x h1) ?_
        refine qv_iconst (v := 1) rfl ?_
        refine qv_iload rfl ?_
        refine qv_ishl ?_
        refine qv_ior ?_
        refine qv_aload rfl ?_
        refine qv_gi ly_111 ⟨rfl, rfl, rfl⟩ (g2) ?_
        refine qv_icmp_ne_f (fun q => q (ho.trans (congrArg nI ((btall_ov hn h1).mpr h2)))) (nx := 3) rfl ?_
        refine qW.blk rfl ?_
        refine qv_iload rfl ?_
        refine qv_iret (rfl) ?_
        exact hk
    | succ c ih =>
      intro x hx
      obtain ⟨o1, o2⟩ := or7 (u := x) (by omega) (ov_lt (W := W) (n := n) (x := x) (by omega))
      have ha := (all_bit n (by omega)).2
      refine qW.blk rfl ?_
      refine qv_iload rfl ?_
      refine qv_aload rfl ?_
      refine qv_gi ly_111 ⟨rfl, rfl, rfl⟩ (g1) ?_
      refine qv_icmp_geNf rfl rfl (by omega) (by omega) (by omega) (nx := 2) rfl ?_
      refine qW.blk rfl ?_
      refine qv_aload rfl ?_
      refine qv_gr ly_111 ⟨rfl, rfl, rfl⟩ (by omega) ?_
      refine qv_iload rfl ?_
      refine qv_ia ly_112 rfl (by omega) (by decide) (g3 x (by omega)) ?_
      refine qv_iconst (v := 1) rfl ?_
      refine qv_iload rfl ?_
      refine qv_ishl ?_
      refine qv_ior ?_
      refine qv_aload rfl ?_
      refine qv_gi ly_111 ⟨rfl, rfl, rfl⟩ (g2) ?_
      refine qv_icmp_ne_t (fun q => hall x (by omega) ((btall_ov hn (by omega)).mp ((nI_eq (by omega) (by omega)).mp (o1.symm.trans q)))) (tgt := 4) rfl ?_
      refine qW.blk rfl ?_
      refine qv_iinc (L' := [_, _]) rfl (nI_succ _).symm rfl ?_
      refine qv_goto (tgt := 1) rfl ?_
      exact ih (x + 1) (by omega)
  refine qW.blk rfl ?_
  refine qv_iconst (v := 0) rfl ?_
  refine qv_istore (L' := [_, _]) rfl ?_
  refine qv_nil (nx := 1) rfl ?_
  exact loop m 0 (by omega)
end
section
variable {X : pm_X} {PR : pm_P}
theorem Sim_best (hP : pm_np PR) : Sim X PR 138 224 [] := by
  intro d A hd hA
  have hC := hA.1
  have hn1 := hC.1
  have hn7 := hC.2.1
  obtain ⟨m, hmn, hall, hlast⟩ : ∃ m, m ≤ aC A 0 ∧ (∀ x, x < m → ¬ btall (cvw (aC A)) (aC A 0) x) ∧ (m = aC A 0 ∨ (m < aC A 0 ∧ btall (cvw (aC A)) (aC A 0) m)) := by
    by_cases h : ∃ j, j < aC A 0 ∧ btall (cvw (aC A)) (aC A 0) j
    · obtain ⟨m, h1, h2⟩ := pk_least _ h
      exact ⟨m, by omega, fun j hj hg => h2 j hj ⟨by omega, hg⟩, Or.inr h1⟩
    · exact ⟨_, Nat.le_refl _, fun j hj hg => h ⟨j, hj, hg⟩, Or.inl rfl⟩
  refine ⟨.int (if m = aC A 0 then -4 else nI m), A, hA, ?_, ?_⟩
  · intro s Q hJ hk
    refine qP.of (L := [_]) (by omega) (hP _ rfl) ms_Desk_best rfl ?_
    show qW X PR (d - 1) (some .int) cd_Desk_best 0 _ _ _ _
    refine qW.blk rfl ?_
    refine qv_aload rfl ?_
    refine qv_virt (ly_8.rcv _) sg_Desk_weighOrders rfl rfl (w_weighOrders hP (by omega) hJ.1 hC (fun t1 F1 g1 => ?_)) 
    refine qv_aload rfl ?_
    refine qv_gr ly_8 ⟨rfl, rfl, rfl⟩ (by omega) ?_
    refine qv_virt (ly_111.rcv _) sg_Orders_beatsAll rfl rfl (w_beatsAll hP (by omega) g1 hn7 hmn hall hlast ?_) 
    refine qv_iret (rfl) ?_
    exact hk t1 (hJ.fr hA F1 (by omega)) (F1.c (by omega) (by omega))
  · intro s Q hJ hk
    have J1 := hJ.thr (v := 0)
    have rv := rview_neu J1.1 hC J1.2.2.2.2.2
    have fin := hk (uF s 163 0 0) J1 ((qfr.rf s).uF (by omega))
    have e0 := J1.1 0 (by decide)
    refine qP.of (L := [_, _, _, _]) (by omega) (hP _ rfl) ms_Model_best rfl ?_
    show qW X PR (d - 1) (some .int) cd_Model_best 0 _ _ _ _
    have inner : ∀ (x : Nat), x < aC A 0 → ∀ (c y o : Nat), y + c = aC A 0 → o < 2 → (o = 1 ↔ ∀ y', y' < y → y' ≠ x → gbts (cvw (aC A)) x y') → (∀ o, o < 2 → (o = 1 ↔ btall (cvw (aC A)) (aC A 0) x) → qW X PR (d - 1) (some .int) cd_Model_best 10 [some (.ref (163)), some (.int (nI x)), some (.int (nI o)), some (.int (nI (aC A 0)))] [] (uF s 163 0 0) Q) → qW X PR (d - 1) (some .int) cd_Model_best 3 [some (.ref (163)), some (.int (nI x)), some (.int (nI o)), some (.int (nI y))] [] (uF s 163 0 0) Q := by
      intro x hx c
      induction c with
      | zero =>
        intro y o hy ho hiff k10
        have e : y = aC A 0 := by omega
        subst e
        refine qW.blk rfl ?_
        refine qv_iload rfl ?_
        refine qv_aload rfl ?_
        refine qv_gr ly_163 ⟨rfl, rfl, rfl⟩ (by omega) ?_
        refine qv_iconst (v := 0) rfl ?_
        refine qv_ia (j := 0) ly_164 rfl (by omega) (by decide) (e0) ?_
        refine qv_icmp_geNt rfl rfl (by omega) (by omega) (by omega) (tgt := 10) rfl ?_
        exact k10 o ho hiff
      | succ c ih =>
        intro y o hy ho hiff k10
        rcases (show o = 0 ∨ o = 1 by omega) with h | h
        · subst h
          refine qW.blk rfl ?_
          refine qv_iload rfl ?_
          refine qv_aload rfl ?_
          refine qv_gr ly_163 ⟨rfl, rfl, rfl⟩ (by omega) ?_
          refine qv_iconst (v := 0) rfl ?_
          refine qv_ia (j := 0) ly_164 rfl (by omega) (by decide) (e0) ?_
          refine qv_icmp_geNf rfl rfl (by omega) (by omega) (by omega) (nx := 4) rfl ?_
          refine qW.blk rfl ?_
          refine qv_iload rfl ?_
          refine qv_if_eqNt rfl (by omega) (by omega) (tgt := 8) rfl ?_
          refine qW.blk rfl ?_
          refine qv_iconst (v := 0) rfl ?_
          refine qv_nil (nx := 9) rfl ?_
          refine qW.blk rfl ?_
          refine qv_istore (L' := [_, _, _, _]) rfl ?_
          refine qv_iinc (L' := [_, _, _, _]) rfl (nI_succ _).symm rfl ?_
          refine qv_goto (tgt := 3) rfl ?_
          refine ih (y + 1) 0 (by omega) (by omega) ⟨fun q => absurd q (by decide), fun q => ?_⟩ k10
          exact hiff.mpr (fun y' h1 h2 => q y' (by omega) h2)
        · subst h
          have hal := hiff.mp rfl
          by_cases hxy : x = y
          · refine qW.blk rfl ?_
            refine qv_iload rfl ?_
            refine qv_aload rfl ?_
            refine qv_gr ly_163 ⟨rfl, rfl, rfl⟩ (by omega) ?_
            refine qv_iconst (v := 0) rfl ?_
            refine qv_ia (j := 0) ly_164 rfl (by omega) (by decide) (e0) ?_
            refine qv_icmp_geNf rfl rfl (by omega) (by omega) (by omega) (nx := 4) rfl ?_
            refine qW.blk rfl ?_
            refine qv_iload rfl ?_
            refine qv_if_eqNf rfl (by omega) (by omega) (nx := 5) rfl ?_
            refine qW.blk rfl ?_
            refine qv_iload rfl ?_
            refine qv_iload rfl ?_
            refine qv_icmp_eqNt rfl rfl (by omega) (by omega) (by omega) (tgt := 7) rfl ?_
            refine qW.blk rfl ?_
            refine qv_iconst (v := 1) rfl ?_
            refine qv_goto (tgt := 9) rfl ?_
            refine qW.blk rfl ?_
            refine qv_istore (L' := [_, _, _, _]) rfl ?_
            refine qv_iinc (L' := [_, _, _, _]) rfl (nI_succ _).symm rfl ?_
            refine qv_goto (tgt := 3) rfl ?_
            exact ih (y + 1) 1 (by omega) (by omega) ⟨fun _ y' h1 h2 => hal y' (by omega) h2, fun _ => rfl⟩ k10
          · by_cases hb : gbts (cvw (aC A)) x y
            · refine qW.blk rfl ?_
              refine qv_iload rfl ?_
              refine qv_aload rfl ?_
              refine qv_gr ly_163 ⟨rfl, rfl, rfl⟩ (by omega) ?_
              refine qv_iconst (v := 0) rfl ?_
              refine qv_ia (j := 0) ly_164 rfl (by omega) (by decide) (e0) ?_
              refine qv_icmp_geNf rfl rfl (by omega) (by omega) (by omega) (nx := 4) rfl ?_
              refine qW.blk rfl ?_
              refine qv_iload rfl ?_
              refine qv_if_eqNf rfl (by omega) (by omega) (nx := 5) rfl ?_
              refine qW.blk rfl ?_
              refine qv_iload rfl ?_
              refine qv_iload rfl ?_
              refine qv_icmp_eqNf rfl rfl (by omega) (by omega) (by omega) (nx := 6) rfl ?_
              refine qW.blk rfl ?_
              refine qv_aload rfl ?_
              refine qv_iload rfl ?_
              refine qv_iload rfl ?_
              refine qv_virtE (ly_163.rcv _) sg_Model_beats rfl rfl (r_M_bts hP (by omega) rv (by omega) (by omega)) ?_
              refine qv_if_eq_f (bI_ne.mpr (hb)) (nx := 7) rfl ?_
              refine qW.blk rfl ?_
              refine qv_iconst (v := 1) rfl ?_
              refine qv_goto (tgt := 9) rfl ?_
              refine qW.blk rfl ?_
              refine qv_istore (L' := [_, _, _, _]) rfl ?_
              refine qv_iinc (L' := [_, _, _, _]) rfl (nI_succ _).symm rfl ?_
              refine qv_goto (tgt := 3) rfl ?_
              refine ih (y + 1) 1 (by omega) (by omega) ⟨fun _ y' h1 h2 => ?_, fun _ => rfl⟩ k10
              by_cases e : y' = y
              · subst e; exact hb
              · exact hal y' (by omega) h2
            · refine qW.blk rfl ?_
              refine qv_iload rfl ?_
              refine qv_aload rfl ?_
              refine qv_gr ly_163 ⟨rfl, rfl, rfl⟩ (by omega) ?_
              refine qv_iconst (v := 0) rfl ?_
              refine qv_ia (j := 0) ly_164 rfl (by omega) (by decide) (e0) ?_
              refine qv_icmp_geNf rfl rfl (by omega) (by omega) (by omega) (nx := 4) rfl ?_
              refine qW.blk rfl ?_
              refine qv_iload rfl ?_
              refine qv_if_eqNf rfl (by omega) (by omega) (nx := 5) rfl ?_
              refine qW.blk rfl ?_
              refine qv_iload rfl ?_
              refine qv_iload rfl ?_
              refine qv_icmp_eqNf rfl rfl (by omega) (by omega) (by omega) (nx := 6) rfl ?_
              refine qW.blk rfl ?_
              refine qv_aload rfl ?_
              refine qv_iload rfl ?_
              refine qv_iload rfl ?_
              refine qv_virtE (ly_163.rcv _) sg_Model_beats rfl rfl (r_M_bts hP (by omega) rv (by omega) (by omega)) ?_
              refine qv_if_eq_t (bI_f (hb)) (tgt := 8) rfl ?_
              refine qW.blk rfl ?_
              refine qv_iconst (v := 0) rfl ?_
              refine qv_nil (nx := 9) rfl ?_
              refine qW.blk rfl ?_
              refine qv_istore (L' := [_, _, _, _]) rfl ?_
              refine qv_iinc (L' := [_, _, _, _]) rfl (nI_succ _).symm rfl ?_
              refine qv_goto (tgt := 3) rfl ?_
              exact ih (y + 1) 0 (by omega) (by omega) ⟨fun q => absurd q (by decide), fun q => absurd (q y (by omega) (fun e => hxy e.symm)) hb⟩ k10
    have loop : ∀ (c x : Nat) (L2 L3 : Option Value), x + c = m → qW X PR (d - 1) (some .int) cd_Model_best 1 [some (.ref (163)), some (.int (nI x)), L2, L3] [] (uF s 163 0 0) Q := by
      intro c
      induction c with
      | zero =>
        intro x L2 L3 hx
        have e : x = m := by omega
        subst e
        rcases hlast with h | ⟨h1, h2⟩
        · rw [if_pos h] at fin
          refine qW.blk rfl ?_
          refine qv_iload rfl ?_
          refine qv_aload rfl ?_
          refine qv_gr ly_163 ⟨rfl, rfl, rfl⟩ (by omega) ?_
          refine qv_iconst (v := 0) rfl ?_
          refine qv_ia (j := 0) ly_164 rfl (by omega) (by decide) (e0) ?_
          refine qv_icmp_geNt rfl rfl (by omega) (by omega) (by omega) (tgt := 13) rfl ?_
          refine qW.blk rfl ?_
          refine qv_iconst (v := (-4)) rfl ?_
          refine qv_iret (rfl) ?_
          exact fin
        · rw [if_neg (by omega)] at fin
          refine qW.blk rfl ?_
          refine qv_iload rfl ?_
          refine qv_aload rfl ?_
          refine qv_gr ly_163 ⟨rfl, rfl, rfl⟩ (by omega) ?_
          refine qv_iconst (v := 0) rfl ?_
          refine qv_ia (j := 0) ly_164 rfl (by omega) (by decide) (e0) ?_
          refine qv_icmp_geNf rfl rfl (by omega) (by omega) (by omega) (nx := 2) rfl ?_
          refine qW.blk rfl ?_
          refine qv_iconst (v := 1) rfl ?_
          refine qv_istore (L' := [_, _, _, _]) rfl ?_
          refine qv_iconst (v := 0) rfl ?_
          refine qv_istore (L' := [_, _, _, _]) rfl ?_
          refine qv_nil (nx := 3) rfl ?_
          refine inner x h1 (aC A 0) 0 1 (by omega) (by omega) ⟨fun _ y' h => absurd h (Nat.not_lt_zero _), fun _ => rfl⟩ (fun o ho hiff => ?_)
          have := hiff.mpr h2
          subst this
          refine qW.blk rfl ?_
          refine qv_iload rfl ?_
          refine qv_if_eqNf rfl (by omega) (by omega) (nx := 11) rfl ?_
          refine qW.blk rfl ?_
          refine qv_iload rfl ?_
          refine qv_iret (rfl) ?_
          exact fin
      | succ c ih =>
        intro x L2 L3 hx
        refine qW.blk rfl ?_
        refine qv_iload rfl ?_
        refine qv_aload rfl ?_
        refine qv_gr ly_163 ⟨rfl, rfl, rfl⟩ (by omega) ?_
        refine qv_iconst (v := 0) rfl ?_
        refine qv_ia (j := 0) ly_164 rfl (by omega) (by decide) (e0) ?_
        refine qv_icmp_geNf rfl rfl (by omega) (by omega) (by omega) (nx := 2) rfl ?_
        refine qW.blk rfl ?_
        refine qv_iconst (v := 1) rfl ?_
        refine qv_istore (L' := [_, _, _, _]) rfl ?_
        refine qv_iconst (v := 0) rfl ?_
        refine qv_istore (L' := [_, _, _, _]) rfl ?_
        refine qv_nil (nx := 3) rfl ?_
        refine inner x (by omega) (aC A 0) 0 1 (by omega) (by omega) ⟨fun _ y' h => absurd h (Nat.not_lt_zero _), fun _ => rfl⟩ (fun o ho hiff => ?_)
        have : o = 0 := by
          rcases (show o = 0 ∨ o = 1 by omega) with h | h
          · exact h
          · exact absurd (hiff.mp h) (hall x (by omega))
        subst this
        refine qW.blk rfl ?_
        refine qv_iload rfl ?_
        refine qv_if_eqNt rfl (by omega) (by omega) (tgt := 12) rfl ?_
        refine qW.blk rfl ?_
        refine qv_iinc (L' := [_, _, _, _]) rfl (nI_succ _).symm rfl ?_
        refine qv_goto (tgt := 1) rfl ?_
        exact ih (x + 1) _ _ (by omega)
    refine qW.blk rfl ?_
    refine qv_aload rfl ?_
    refine qv_iconst (v := 0) rfl ?_
    refine qv_pi ly_163 ⟨rfl, rfl, rfl⟩ (rfl) ?_
    refine qv_iconst (v := 0) rfl ?_
    refine qv_istore (L' := [_, _, _, _]) rfl ?_
    refine qv_nil (nx := 1) rfl ?_
    exact loop m 0 _ _ (by omega)
end
