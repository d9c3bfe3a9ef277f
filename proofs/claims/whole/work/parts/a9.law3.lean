/-! the reference's LAWS; breach is alike -/
/-- the reference supposes a small chamber -/
def rch3 (s : QST) (z kd : Nat) (C : Nat → Nat) : Prop := rC s 164 C ∧ qF s 163 35 = nI z ∧ qF s 163 28 = nI kd ∧ qF s 163 29 = 0 ∧ qF s 163 33 = 0
theorem rch3.fr {s s' : QST} {z kd : Nat} {C : Nat → Nat} (h : rch3 s z kd C) (F : rfr s s') : rch3 s' z kd C := by
  obtain ⟨h1, h2, h3, h4, h5⟩ := h
  exact ⟨h1.cg (F.2.1 _ (by omega)), by rw [F.2.2.2 35 (by omega)]; exact h2, by rw [F.2.2.2 28 (by omega)]; exact h3, by rw [F.2.2.2 29 (by omega)]; exact h4, by rw [F.2.2.2 33 (by omega)]; exact h5⟩
theorem rview_ch {s : QST} {z kd : Nat} {C : Nat → Nat} {l : Nat → Nat} (h : rch3 s z kd C) (hz1 : 1 ≤ z) (hz : z ≤ 3) (hk : kd ≤ 1) (hl : ∀ j, j < z → l j < 6) (h1 : ∀ j, j < z → qE s 183 j = nI (l j)) : rview s z (wR z kd (C 1) l) := by
  obtain ⟨hC, h35, h28, h29, h33⟩ := h
  have n35 : ¬ qF s 163 35 ≤ 0 := by rw [h35]; exact nI_nle (by omega) (by omega)
  have ek : ∀ m, v_kin (qF s 163) (fun k => qE s (164 + k)) m = nI kd := fun m => by
    unfold v_kin; rw [h28, if_neg (nI_pos (by omega))]
  have k2 : ∀ m, ¬ v_kin (qF s 163) (fun k => qE s (164 + k)) m = 2 := fun m q => by
    rw [ek] at q
    have := (nI_eq (a := kd) (b := 2) (by omega) (by omega)).mp q; omega
  have k34 : ∀ m, ¬ (v_kin (qF s 163) (fun k => qE s (164 + k)) m = 3 ∨ v_kin (qF s 163) (fun k => qE s (164 + k)) m = 4) := fun m q => by
    rw [ek] at q
    rcases q with q | q
    · have := (nI_eq (a := kd) (b := 3) (by omega) (by omega)).mp q; omega
    · have := (nI_eq (a := kd) (b := 4) (by omega) (by omega)).mp q; omega
  refine ⟨⟨rfl, hC 1 (by decide), fun m hm => ⟨ek m, ?_, fun q => absurd q (k34 m), fun q => absurd q (k2 m), fun q => absurd (Or.inr q) (k34 m), fun x y hx hy => ?_⟩⟩, ⟨?_, by omega, fun _ => hz⟩, fun m _ q => absurd q (k2 m)⟩
  · show v_voi (qF s 163) (fun k => qE s (164 + k)) m = 1
    unfold v_voi; rw [if_neg n35]
  · have hm' : m < z := hm
    have ew : ∀ x, x < 7 → v_wis (qF s 163) (fun k => qE s (164 + k)) m x = nI (plN (l m) x) := fun x hx => by
      unfold v_wis
      rw [if_neg n35]
      have e : (fun k => qE s (164 + k)) 19 m = nI (l m) := h1 m hm'
      rw [e]
      exact plN_sp _ (hl m hm') x hx
    show sgn (v_wis (qF s 163) (fun k => qE s (164 + k)) m x) (v_wis (qF s 163) (fun k => qE s (164 + k)) m y) = sgn (nI (plN (l m) x)) (nI (plN (l m) y))
    rw [ew x hx, ew y hy]
  · unfold v_mem
    rw [if_neg n35]; exact h35
def lkN (l p : Nat) : Nat := [0, 1, 2, 0, 2, 1, 1, 0, 2, 1, 2, 0, 2, 0, 1, 2, 1, 0].getD (3 * l + p) 0
theorem lkN_sp : ∀ l, l < 6 → sp_liked (nI l) 0 = nI (lkN l 0) ∧ sp_liked (nI l) 1 = nI (lkN l 1) ∧ sp_liked (nI l) 2 = nI (lkN l 2) ∧ lkN l 0 < 3 ∧ lkN l 1 < 3 ∧ lkN l 2 < 3 := by decide +kernel
theorem liN_lk : ∀ l, l < 6 → liN l 1 = 2 * lkN l 1 + (if lkN l 0 < lkN l 2 then 0 else 1) ∧ liN l 2 = 2 * lkN l 0 + (if lkN l 2 < lkN l 1 then 0 else 1) := by decide +kernel
theorem lt8 : ∀ x, x < 128 → (x < 8 ↔ ∀ e, e < 7 → btn x e → e < 3) := by decide +kernel
/-- both pictures of a TREE have the same ENDS -/
theorem E3_iff {D : TD} (hD : tdOK D) : (D.2.2.2.2.2.1 ||| D.2.2.2.2.2.2 < 8 ↔ E3 D) ∧ (E3 D ↔ ∀ m, m < D.2.2.2.1 → ¬ (D.2.1 m).1 = 1 → (D.2.1 m).2.2.2.1 ≤ 2 ∧ ((D.2.1 m).1 = 2 → (D.2.1 m).2.2.2.2 ≤ 2)) := by
  have hE := tdE hD
  obtain ⟨-, -, hpre, -, ⟨-, i2, i3, i4⟩, -, hs, ha, hb, -⟩ := hD
  constructor
  · rw [lt8 _ (Nat.or_lt_two_pow (n := 7) hs ha)]
    constructor
    · intro h e he
      have he7 := hE e he
      refine h e he7 (btn_or2.mpr ?_)
      rcases he with q | q
      · exact Or.inl ((hb e he7).1.mpr q)
      · exact Or.inr ((hb e he7).2.mpr q)
    · intro h e he7 he
      rcases btn_or2.mp he with q | q
      · exact h e (Or.inl ((hb e he7).1.mp q))
      · exact h e (Or.inr ((hb e he7).2.mp q))
  · constructor
    · intro h m hm hk
      obtain ⟨n, n1, n2⟩ := i3 m hm
      obtain ⟨u1, u2, u3, -, -⟩ := i4 n n1
      rw [n2] at u1 u2 u3
      have h1 : ¬ (D.1 n).1 = 1 := by rw [← u1]; exact hk
      have hle := (hpre n n1).1
      rw [u2 h1]
      rcases (show (D.1 n).1 = 0 ∨ (D.1 n).1 = 2 by omega) with q | q
      · have := h _ (Or.inl ⟨n, n1, q, rfl⟩)
        exact ⟨by omega, fun z => by omega⟩
      · have a1 := h _ (Or.inr ⟨n, n1, q, Or.inl rfl⟩)
        have a2 := h _ (Or.inr ⟨n, n1, q, Or.inr rfl⟩)
        exact ⟨by omega, fun z => by rw [u3 q]; omega⟩
    · rintro h e (⟨j, j1, j2, j3⟩ | ⟨j, j1, j2, j3⟩)
      · obtain ⟨u1, u2, u3, -, -⟩ := i4 j j1
        have := (h _ (i2 j j1) (by rw [u1, j2]; decide)).1
        rw [u2 (by rw [j2]; decide)] at this
        omega
      · obtain ⟨u1, u2, u3, -, -⟩ := i4 j j1
        have := h _ (i2 j j1) (by rw [u1, j2]; decide)
        rw [u2 (by rw [j2]; decide), u1, u3 j2] at this
        rcases j3 with q | q
        · omega
        · have := this.2 j2; omega
section
variable {X : pm_X} {PR : pm_P} {s : QST} {Q : QPost}
theorem r_placeN (hP : pm_np PR) {d : Nat} (hd : 2 ≤ d) {l e : Nat} (hl : l < 6) (he : e < 7) : pm_run X pm_Ms PR d 191 [.int (nI l), .int (nI e)] (qhp s) = some (some (.int (nI (plN l e))), qhp s) := by
  rw [← plN_sp l hl e he]; exact r_Model_placeIn hP hd _ _
theorem w_endC (hP : pm_np PR) {d : Nat} (hd : 9 ≤ d) {z kd ch : Nat} {l : Nat → Nat} (hv : rview s z (wR z kd ch l)) {tt : Nat} (htt : tt < 12) {D : TD} (hD : tdOK D) (hT : rTD s tt D) (hk : ∀ s', efr s s' → Q (some (.int (nI (cend z kd ch D l)))) s') : qP X PR d 199 [.ref 163, .int (nI tt)] s Q := w_M_endOf hP hd hv htt hD hT (fun s' F _ _ _ => hk s' F)
theorem w_lifted (hP : pm_np PR) {d : Nat} (hd : 2 ≤ d) {l p : Nat} (hl : l < 6) (hp : p = 1 ∨ p = 2) (hk : Q (some (.int (nI (liN l p)))) s) : qP X PR d 246 [.int (nI l), .int (nI p)] s Q := by
  obtain ⟨a0, a1, a2, b0, b1, b2⟩ := lkN_sp l hl
  obtain ⟨c1, c2⟩ := liN_lk l hl
  refine qP.of (L := [_, _, _, _, _, _, _, _]) (by omega) (hP _ rfl) ms_Model_lifted rfl ?_
  show qW X PR (d - 1) (some .int) cd_Model_lifted 0 _ _ _ _
  rcases hp with h | h
  · subst h
    rw [c1] at hk
    by_cases hlt : lkN l 0 < lkN l 2
    · rw [if_pos hlt] at hk
      refine qW.blk rfl ?_
      refine qv_iload rfl ?_
      refine qv_iconst (v := 0) rfl ?_
      refine qv_staticE sg_Model_liked rfl (r_Model_liked hP (by omega) (nI l) 0) ?_
      refine qv_top (a0) ?_
      refine qv_istore (L' := [_, _, _, _, _, _, _, _]) rfl ?_
      refine qv_iload rfl ?_
      refine qv_iconst (v := 1) rfl ?_
      refine qv_staticE sg_Model_liked rfl (r_Model_liked hP (by omega) (nI l) 1) ?_
      refine qv_top (a1) ?_
      refine qv_istore (L' := [_, _, _, _, _, _, _, _]) rfl ?_
      refine qv_iload rfl ?_
      refine qv_iconst (v := 2) rfl ?_
      refine qv_staticE sg_Model_liked rfl (r_Model_liked hP (by omega) (nI l) 2) ?_
      refine qv_top (a2) ?_
      refine qv_istore (L' := [_, _, _, _, _, _, _, _]) rfl ?_
      refine qv_iload rfl ?_
      refine qv_iconst (v := 1) rfl ?_
      refine qv_icmp_neNf (q := 1) rfl rfl (by omega) (by omega) (by omega) (nx := 1) rfl ?_
      refine qW.blk rfl ?_
      refine qv_iload rfl ?_
      refine qv_goto (tgt := 3) rfl ?_
      refine qW.blk rfl ?_
      refine qv_istore (L' := [_, _, _, _, _, _, _, _]) rfl ?_
      refine qv_iload rfl ?_
      refine qv_iconst (v := 1) rfl ?_
      refine qv_icmp_neNf (q := 1) rfl rfl (by omega) (by omega) (by omega) (nx := 4) rfl ?_
      refine qW.blk rfl ?_
      refine qv_iload rfl ?_
      refine qv_goto (tgt := 6) rfl ?_
      refine qW.blk rfl ?_
      refine qv_istore (L' := [_, _, _, _, _, _, _, _]) rfl ?_
      refine qv_iload rfl ?_
      refine qv_iconst (v := 1) rfl ?_
      refine qv_icmp_neNf (q := 1) rfl rfl (by omega) (by omega) (by omega) (nx := 7) rfl ?_
      refine qW.blk rfl ?_
      refine qv_iload rfl ?_
      refine qv_goto (tgt := 9) rfl ?_
      refine qW.blk rfl ?_
      refine qv_istore (L' := [_, _, _, _, _, _, _, _]) rfl ?_
      refine qv_iconst (v := 2) rfl ?_
      refine qv_iload rfl ?_
      refine qv_imulN (p := 2) rfl rfl ?_
      refine qv_iload rfl ?_
      refine qv_iload rfl ?_
      refine qv_icmp_geNf rfl rfl (by omega) (by omega) (by omega) (nx := 10) rfl ?_
      refine qW.blk rfl ?_
      refine qv_iconst (v := 0) rfl ?_
      refine qv_goto (tgt := 12) rfl ?_
      refine qW.blk rfl ?_
      refine qv_iaddN (q := 0) rfl rfl ?_
      refine qv_iret (rfl) ?_
      exact hk
    · rw [if_neg hlt] at hk
      refine qW.blk rfl ?_
      refine qv_iload rfl ?_
      refine qv_iconst (v := 0) rfl ?_
      refine qv_staticE sg_Model_liked rfl (r_Model_liked hP (by omega) (nI l) 0) ?_
      refine qv_top (a0) ?_
      refine qv_istore (L' := [_, _, _, _, _, _, _, _]) rfl ?_
      refine qv_iload rfl ?_
      refine qv_iconst (v := 1) rfl ?_
      refine qv_staticE sg_Model_liked rfl (r_Model_liked hP (by omega) (nI l) 1) ?_
      refine qv_top (a1) ?_
      refine qv_istore (L' := [_, _, _, _, _, _, _, _]) rfl ?_
      refine qv_iload rfl ?_
      refine qv_iconst (v := 2) rfl ?_
      refine qv_staticE sg_Model_liked rfl (r_Model_liked hP (by omega) (nI l) 2) ?_
      refine qv_top (a2) ?_
      refine qv_istore (L' := [_, _, _, _, _, _, _, _]) rfl ?_
      refine qv_iload rfl ?_
      refine qv_iconst (v := 1) rfl ?_
      refine qv_icmp_neNf (q := 1) rfl rfl (by omega) (by omega) (by omega) (nx := 1) rfl ?_
      refine qW.blk rfl ?_
      refine qv_iload rfl ?_
      refine qv_goto (tgt := 3) rfl ?_
      refine qW.blk rfl ?_
      refine qv_istore (L' := [_, _, _, _, _, _, _, _]) rfl ?_
      refine qv_iload rfl ?_
      refine qv_iconst (v := 1) rfl ?_
      refine qv_icmp_neNf (q := 1) rfl rfl (by omega) (by omega) (by omega) (nx := 4) rfl ?_
      refine qW.blk rfl ?_
      refine qv_iload rfl ?_
      refine qv_goto (tgt := 6) rfl ?_
      refine qW.blk rfl ?_
      refine qv_istore (L' := [_, _, _, _, _, _, _, _]) rfl ?_
      refine qv_iload rfl ?_
      refine qv_iconst (v := 1) rfl ?_
      refine qv_icmp_neNf (q := 1) rfl rfl (by omega) (by omega) (by omega) (nx := 7) rfl ?_
      refine qW.blk rfl ?_
      refine qv_iload rfl ?_
      refine qv_goto (tgt := 9) rfl ?_
      refine qW.blk rfl ?_
      refine qv_istore (L' := [_, _, _, _, _, _, _, _]) rfl ?_
      refine qv_iconst (v := 2) rfl ?_
      refine qv_iload rfl ?_
      refine qv_imulN (p := 2) rfl rfl ?_
      refine qv_iload rfl ?_
      refine qv_iload rfl ?_
      refine qv_icmp_geNt rfl rfl (by omega) (by omega) (by omega) (tgt := 11) rfl ?_
      refine qW.blk rfl ?_
      refine qv_iconst (v := 1) rfl ?_
      refine qv_nil (nx := 12) rfl ?_
      refine qW.blk rfl ?_
      refine qv_iaddN (q := 1) rfl rfl ?_
      refine qv_iret (rfl) ?_
      exact hk
  · subst h
    rw [c2] at hk
    by_cases hlt : lkN l 2 < lkN l 1
    · rw [if_pos hlt] at hk
      refine qW.blk rfl ?_
      refine qv_iload rfl ?_
      refine qv_iconst (v := 0) rfl ?_
      refine qv_staticE sg_Model_liked rfl (r_Model_liked hP (by omega) (nI l) 0) ?_
      refine qv_top (a0) ?_
      refine qv_istore (L' := [_, _, _, _, _, _, _, _]) rfl ?_
      refine qv_iload rfl ?_
      refine qv_iconst (v := 1) rfl ?_
      refine qv_staticE sg_Model_liked rfl (r_Model_liked hP (by omega) (nI l) 1) ?_
      refine qv_top (a1) ?_
      refine qv_istore (L' := [_, _, _, _, _, _, _, _]) rfl ?_
      refine qv_iload rfl ?_
      refine qv_iconst (v := 2) rfl ?_
      refine qv_staticE sg_Model_liked rfl (r_Model_liked hP (by omega) (nI l) 2) ?_
      refine qv_top (a2) ?_
      refine qv_istore (L' := [_, _, _, _, _, _, _, _]) rfl ?_
      refine qv_iload rfl ?_
      refine qv_iconst (v := 1) rfl ?_
      refine qv_icmp_neNt (q := 1) rfl rfl (by omega) (by omega) (by omega) (tgt := 2) rfl ?_
      refine qW.blk rfl ?_
      refine qv_iload rfl ?_
      refine qv_nil (nx := 3) rfl ?_
      refine qW.blk rfl ?_
      refine qv_istore (L' := [_, _, _, _, _, _, _, _]) rfl ?_
      refine qv_iload rfl ?_
      refine qv_iconst (v := 1) rfl ?_
      refine qv_icmp_neNt (q := 1) rfl rfl (by omega) (by omega) (by omega) (tgt := 5) rfl ?_
      refine qW.blk rfl ?_
      refine qv_iload rfl ?_
      refine qv_nil (nx := 6) rfl ?_
      refine qW.blk rfl ?_
      refine qv_istore (L' := [_, _, _, _, _, _, _, _]) rfl ?_
      refine qv_iload rfl ?_
      refine qv_iconst (v := 1) rfl ?_
      refine qv_icmp_neNt (q := 1) rfl rfl (by omega) (by omega) (by omega) (tgt := 8) rfl ?_
      refine qW.blk rfl ?_
      refine qv_iload rfl ?_
      refine qv_nil (nx := 9) rfl ?_
      refine qW.blk rfl ?_
      refine qv_istore (L' := [_, _, _, _, _, _, _, _]) rfl ?_
      refine qv_iconst (v := 2) rfl ?_
      refine qv_iload rfl ?_
      refine qv_imulN (p := 2) rfl rfl ?_
      refine qv_iload rfl ?_
      refine qv_iload rfl ?_
      refine qv_icmp_geNf rfl rfl (by omega) (by omega) (by omega) (nx := 10) rfl ?_
      refine qW.blk rfl ?_
      refine qv_iconst (v := 0) rfl ?_
      refine qv_goto (tgt := 12) rfl ?_
      refine qW.blk rfl ?_
      refine qv_iaddN (q := 0) rfl rfl ?_
      refine qv_iret (rfl) ?_
      exact hk
    · rw [if_neg hlt] at hk
      refine qW.blk rfl ?_
      refine qv_iload rfl ?_
      refine qv_iconst (v := 0) rfl ?_
      refine qv_staticE sg_Model_liked rfl (r_Model_liked hP (by omega) (nI l) 0) ?_
      refine qv_top (a0) ?_
      refine qv_istore (L' := [_, _, _, _, _, _, _, _]) rfl ?_
      refine qv_iload rfl ?_
      refine qv_iconst (v := 1) rfl ?_
      refine qv_staticE sg_Model_liked rfl (r_Model_liked hP (by omega) (nI l) 1) ?_
      refine qv_top (a1) ?_
      refine qv_istore (L' := [_, _, _, _, _, _, _, _]) rfl ?_
      refine qv_iload rfl ?_
      refine qv_iconst (v := 2) rfl ?_
      refine qv_staticE sg_Model_liked rfl (r_Model_liked hP (by omega) (nI l) 2) ?_
      refine qv_top (a2) ?_
      refine qv_istore (L' := [_, _, _, _, _, _, _, _]) rfl ?_
      refine qv_iload rfl ?_
      refine qv_iconst (v := 1) rfl ?_
      refine qv_icmp_neNt (q := 1) rfl rfl (by omega) (by omega) (by omega) (tgt := 2) rfl ?_
      refine qW.blk rfl ?_
      refine qv_iload rfl ?_
      refine qv_nil (nx := 3) rfl ?_
      refine qW.blk rfl ?_
      refine qv_istore (L' := [_, _, _, _, _, _, _, _]) rfl ?_
      refine qv_iload rfl ?_
      refine qv_iconst (v := 1) rfl ?_
      refine qv_icmp_neNt (q := 1) rfl rfl (by omega) (by omega) (by omega) (tgt := 5) rfl ?_
      refine qW.blk rfl ?_
      refine qv_iload rfl ?_
      refine qv_nil (nx := 6) rfl ?_
      refine qW.blk rfl ?_
      refine qv_istore (L' := [_, _, _, _, _, _, _, _]) rfl ?_
      refine qv_iload rfl ?_
      refine qv_iconst (v := 1) rfl ?_
      refine qv_icmp_neNt (q := 1) rfl rfl (by omega) (by omega) (by omega) (tgt := 8) rfl ?_
      refine qW.blk rfl ?_
      refine qv_iload rfl ?_
      refine qv_nil (nx := 9) rfl ?_
      refine qW.blk rfl ?_
      refine qv_istore (L' := [_, _, _, _, _, _, _, _]) rfl ?_
      refine qv_iconst (v := 2) rfl ?_
      refine qv_iload rfl ?_
      refine qv_imulN (p := 2) rfl rfl ?_
      refine qv_iload rfl ?_
      refine qv_iload rfl ?_
      refine qv_icmp_geNt rfl rfl (by omega) (by omega) (by omega) (tgt := 11) rfl ?_
      refine qW.blk rfl ?_
      refine qv_iconst (v := 1) rfl ?_
      refine qv_nil (nx := 12) rfl ?_
      refine qW.blk rfl ?_
      refine qv_iaddN (q := 1) rfl rfl ?_
      refine qv_iret (rfl) ?_
      exact hk
theorem w_findChamber (hP : pm_np PR) {d : Nat} (hd : 1 ≤ d) {z c : Nat} (hz : z ≤ 3) (hc : c < 6 ^ z) (h35 : qF s 163 35 = nI z) (hk : ∀ s', qfr 183 183 s s' → (∀ j, j < z → qE s' 183 j = nI (lkc z c j)) → Q none s') : qP X PR d 244 [.ref 163, .int (nI c)] s Q := by
  refine qP.of (L := [_, _, _, _]) (by omega) (hP _ rfl) ms_Model_findChamber rfl ?_
  show qW X PR (d - 1) (none) cd_Model_findChamber 0 _ _ _ _
  have hp6 := (pow6 z (by omega)).1
  have loop : ∀ (r L : Nat) (v : Int32) (s1 : QST), r ≤ z → v = nI r - 1 → L = c / 6 ^ (z - r) → qfr 183 183 s s1 → (∀ j, r ≤ j → j < z → qE s1 183 j = nI (lkc z c j)) → qW X PR (d - 1) (none) cd_Model_findChamber 1 [some (.ref (163)), some (.int (nI c)), some (.int (nI L)), some (.int (v))] [] s1 Q := by
    intro r
    induction r with
    | zero =>
      intro L v s1 hr hv hL F1 g1
      subst hv
      refine qW.blk rfl ?_
      refine qv_iload rfl ?_
      refine qv_if_lt_t (by decide) (tgt := 3) rfl ?_
      refine qW.blk rfl ?_
      refine qv_ret rfl ?_
      exact hk s1 F1 (fun j hj => g1 j (by omega) hj)
    | succ r ih =>
      intro L v s1 hr hv hL F1 g1
      rw [nI_dec] at hv
      subst hv
      have hLc : L ≤ c := by rw [hL]; exact Nat.div_le_self _ _
      have hlk : L % 6 = lkc z c r := by rw [hL]; unfold lkc; rw [show z - (r + 1) = z - 1 - r by omega]
      have hL2 : L / 6 = c / 6 ^ (z - r) := by
        rw [hL, show z - r = z - (r + 1) + 1 by omega, Nat.pow_succ, Nat.div_div_eq_div_mul]
      refine qW.blk rfl ?_
      refine qv_iload rfl ?_
      refine qv_if_lt_f (Int32.not_lt.mpr (nI_pos' (by omega))) (nx := 2) rfl ?_
      refine qW.blk rfl ?_
      refine qv_aload rfl ?_
      refine qv_gr ly_163 ⟨rfl, rfl, rfl⟩ (by omega) ?_
      refine qv_iload rfl ?_
      refine qv_iload rfl ?_
      refine qv_iconst (v := 6) rfl ?_
      refine qv_iremN (q := 6) rfl rfl (by omega) (by omega) (by omega) ?_
      refine qv_top (congrArg nI hlk) ?_
      refine qv_is ly_183 (rfl) (by omega) (by decide) ?_
      refine qv_iload rfl ?_
      refine qv_iconst (v := 6) rfl ?_
      refine qv_idivN (q := 6) rfl rfl (by omega) (by omega) (by omega) ?_
      refine qv_istore (L' := [_, _, _, _]) rfl ?_
      refine qv_iinc (L' := [_, _, _, _]) rfl (dec_eq _) rfl ?_
      refine qv_goto (tgt := 1) rfl ?_
      refine ih (L / 6) _ _ (by omega) rfl hL2 (F1.uE (by omega)) (fun j h1 h2 => ?_)
      by_cases ej : j = r
      · subst ej; rw [qE_uEs]
      · rw [qE_uEk ej]; exact g1 j (by omega) h2
  refine qW.blk rfl ?_
  refine qv_iload rfl ?_
  refine qv_istore (L' := [_, _, _, _]) rfl ?_
  refine qv_aload rfl ?_
  refine qv_gi ly_163 ⟨rfl, rfl, rfl⟩ (h35) ?_
  refine qv_iconst (v := 1) rfl ?_
  refine qv_isub ?_
  refine qv_istore (L' := [_, _, _, _]) rfl ?_
  refine qv_nil (nx := 1) rfl ?_
  exact loop z c _ s (Nat.le_refl _) rfl (by rw [Nat.sub_self, Nat.pow_zero, Nat.div_one]) (qfr.rf s) (fun j h1 h2 => by omega)
theorem w_breaks (hP : pm_np PR) {d : Nat} (hd : 11 ≤ d) {z kd tt law : Nat} {C : Nat → Nat} {D : TD} {l : Nat → Nat} (hz1 : 1 ≤ z) (hz : z ≤ 3) (hkd : kd ≤ 1) (hr : rch3 s z kd C) (htt : tt < 12) (hD : tdOK D) (hE : E3 D) (hT : rTD s tt D) (hl : ∀ j, l j < 6) (h1 : ∀ j, j < z → qE s 183 j = nI (l j)) (hlaw : law ≤ 2) [hdec : Decidable (brk z kd (C 1) D law l)] (hk : ∀ s', rfr s s' → Q (some (.int (bI (brk z kd (C 1) D law l)))) s') : qP X PR d 245 [.ref 163, .int (nI tt), .int (nI law)] s Q := by
  refine qP.of (L := [_, _, _, _, _, _, _, _, _]) (by omega) (hP _ rfl) ms_Model_breaks rfl ?_
  show qW X PR (d - 1) (some .boolean) cd_Model_breaks 0 _ _ _ _
  have he3 := cend_lt (z := z) (kd := kd) (ch := C 1) (l := l) hD hE hz hkd
  have hTf : ∀ s1, rfr s s1 → rTD s1 tt D := fun s1 F => hT.cg (fun c hc => F.2.1 c (by omega))
  by_cases hl0 : law = 0
  · subst hl0
    have eb : brk z kd (C 1) D 0 l ↔ brk0 z kd (C 1) D l := by unfold brk; rw [if_pos rfl]
    have outer : ∀ (s1 : QST), rfr s s1 → rview s1 z (wR z kd (C 1) l) → ∀ (k x : Nat) (L5 L6 L7 L8 : Option Value), x + k = 3 → (∀ x', x' < x → ¬ ((∀ y, y < 3 → y ≠ x' → gbts (wR z kd (C 1) l) x' y) ∧ cend z kd (C 1) D l ≠ x')) → qW X PR (d - 1) (some .boolean) cd_Model_breaks 2 [some (.ref (163)), some (.int (nI tt)), some (.int (nI 0)), some (.int (nI (cend z kd (C 1) D l))), some (.int (nI x)), L5, L6, L7, L8] [] s1 Q := by
      intro s1 F1 rv k
      have fin := hk s1 F1
      induction k with
      | zero =>
        intro x L5 L6 L7 L8 hx hno
        have e : x = 3 := by omega
        subst e
        rw [bI_f (fun q => by obtain ⟨y, y1, y2, y3⟩ := eb.mp q; exact hno y y1 ⟨y2, y3⟩)] at fin
        refine qW.blk rfl ?_
        refine qv_iload rfl ?_
        refine qv_iconst (v := 3) rfl ?_
        refine qv_icmp_geNt (q := 3) rfl rfl (by omega) (by omega) (by omega) (tgt := 15) rfl ?_
        refine qW.blk rfl ?_
        refine qv_iconst (v := 0) rfl ?_
        refine qv_iret (by first | exact bI_ret | rfl) ?_
        exact fin
      | succ k ih =>
        intro x L5 L6 L7 L8 hx hno
        have nx : ¬ ((∀ y, y < 3 → y ≠ x → gbts (wR z kd (C 1) l) x y) ∧ cend z kd (C 1) D l ≠ x) → ∀ L5 L6 L7 L8, qW X PR (d - 1) (some .boolean) cd_Model_breaks 2 [some (.ref (163)), some (.int (nI tt)), some (.int (nI 0)), some (.int (nI (cend z kd (C 1) D l))), some (.int (nI (x + 1))), L5, L6, L7, L8] [] s1 Q := fun hn L5 L6 L7 L8 => ih (x + 1) L5 L6 L7 L8 (by omega) (fun x' hx' => by
          by_cases e : x' = x
          · subst e; exact hn
          · exact hno x' (by omega))
        have inner : ∀ (k2 y a : Nat), y + k2 = 3 → a < 2 → (a = 1 ↔ ∀ y', y' < y → y' ≠ x → gbts (wR z kd (C 1) l) x y') → qW X PR (d - 1) (some .boolean) cd_Model_breaks 4 [some (.ref (163)), some (.int (nI tt)), some (.int (nI 0)), some (.int (nI (cend z kd (C 1) D l))), some (.int (nI x)), some (.int (nI a)), some (.int (nI y)), L7, L8] [] s1 Q := by
          intro k2
          induction k2 with
          | zero =>
            intro y a hy ha hiff
            have e : y = 3 := by omega
            subst e
            rcases (show a = 0 ∨ a = 1 by omega) with h | h
            · subst h
              refine qW.blk rfl ?_
              refine qv_iload rfl ?_
              refine qv_iconst (v := 3) rfl ?_
              refine qv_icmp_geNt (q := 3) rfl rfl (by omega) (by omega) (by omega) (tgt := 11) rfl ?_
              refine qW.blk rfl ?_
              refine qv_iload rfl ?_
              refine qv_if_eqNt rfl (by omega) (by omega) (tgt := 14) rfl ?_
              refine qW.blk rfl ?_
              refine qv_iinc (L' := [_, _, _, _, _, _, _, _, _]) rfl (nI_succ _).symm rfl ?_
              refine qv_goto (tgt := 2) rfl ?_
              exact nx (fun q => absurd (hiff.mpr q.1) (by decide)) _ _ _ _
            · subst h
              by_cases hce : cend z kd (C 1) D l = x
              · refine qW.blk rfl ?_
                refine qv_iload rfl ?_
                refine qv_iconst (v := 3) rfl ?_
                refine qv_icmp_geNt (q := 3) rfl rfl (by omega) (by omega) (by omega) (tgt := 11) rfl ?_
                refine qW.blk rfl ?_
                refine qv_iload rfl ?_
                refine qv_if_eqNf rfl (by omega) (by omega) (nx := 12) rfl ?_
                refine qW.blk rfl ?_
                refine qv_iload rfl ?_
                refine qv_iload rfl ?_
                refine qv_icmp_eqNt rfl rfl (by omega) (by omega) (by omega) (tgt := 14) rfl ?_
                refine qW.blk rfl ?_
                refine qv_iinc (L' := [_, _, _, _, _, _, _, _, _]) rfl (nI_succ _).symm rfl ?_
                refine qv_goto (tgt := 2) rfl ?_
                exact nx (fun q => q.2 hce) _ _ _ _
              · rw [bI_t (eb.mpr ⟨x, by omega, hiff.mp rfl, hce⟩)] at fin
                refine qW.blk rfl ?_
                refine qv_iload rfl ?_
                refine qv_iconst (v := 3) rfl ?_
                refine qv_icmp_geNt (q := 3) rfl rfl (by omega) (by omega) (by omega) (tgt := 11) rfl ?_
                refine qW.blk rfl ?_
                refine qv_iload rfl ?_
                refine qv_if_eqNf rfl (by omega) (by omega) (nx := 12) rfl ?_
                refine qW.blk rfl ?_
                refine qv_iload rfl ?_
                refine qv_iload rfl ?_
                refine qv_icmp_eqNf rfl rfl (by omega) (by omega) (by omega) (nx := 13) rfl ?_
                refine qW.blk rfl ?_
                refine qv_iconst (v := 1) rfl ?_
                refine qv_iret (by first | exact bI_ret | rfl) ?_
                exact fin
          | succ k2 ih2 =>
            intro y a hy ha hiff
            rcases (show a = 0 ∨ a = 1 by omega) with h | h
            · subst h
              refine qW.blk rfl ?_
              refine qv_iload rfl ?_
              refine qv_iconst (v := 3) rfl ?_
              refine qv_icmp_geNf (q := 3) rfl rfl (by omega) (by omega) (by omega) (nx := 5) rfl ?_
              refine qW.blk rfl ?_
              refine qv_iload rfl ?_
              refine qv_if_eqNt rfl (by omega) (by omega) (tgt := 9) rfl ?_
              refine qW.blk rfl ?_
              refine qv_iconst (v := 0) rfl ?_
              refine qv_nil (nx := 10) rfl ?_
              refine qW.blk rfl ?_
              refine qv_istore (L' := [_, _, _, _, _, _, _, _, _]) rfl ?_
              refine qv_iinc (L' := [_, _, _, _, _, _, _, _, _]) rfl (nI_succ _).symm rfl ?_
              refine qv_goto (tgt := 4) rfl ?_
              exact ih2 (y + 1) 0 (by omega) (by omega) ⟨fun q => absurd q (by decide), fun q => hiff.mpr (fun y' h1 h2 => q y' (by omega) h2)⟩
            · subst h
              have hal := hiff.mp rfl
              by_cases exy : x = y
              · refine qW.blk rfl ?_
                refine qv_iload rfl ?_
                refine qv_iconst (v := 3) rfl ?_
                refine qv_icmp_geNf (q := 3) rfl rfl (by omega) (by omega) (by omega) (nx := 5) rfl ?_
                refine qW.blk rfl ?_
                refine qv_iload rfl ?_
                refine qv_if_eqNf rfl (by omega) (by omega) (nx := 6) rfl ?_
                refine qW.blk rfl ?_
                refine qv_iload rfl ?_
                refine qv_iload rfl ?_
                refine qv_icmp_eqNt rfl rfl (by omega) (by omega) (by omega) (tgt := 8) rfl ?_
                refine qW.blk rfl ?_
                refine qv_iconst (v := 1) rfl ?_
                refine qv_goto (tgt := 10) rfl ?_
                refine qW.blk rfl ?_
                refine qv_istore (L' := [_, _, _, _, _, _, _, _, _]) rfl ?_
                refine qv_iinc (L' := [_, _, _, _, _, _, _, _, _]) rfl (nI_succ _).symm rfl ?_
                refine qv_goto (tgt := 4) rfl ?_
                refine ih2 (y + 1) 1 (by omega) (by omega) ⟨fun _ y' h1 h2 => ?_, fun _ => rfl⟩
                exact hal y' (by omega) h2
              · by_cases hg : gbts (wR z kd (C 1) l) x y
                · refine qW.blk rfl ?_
                  refine qv_iload rfl ?_
                  refine qv_iconst (v := 3) rfl ?_
                  refine qv_icmp_geNf (q := 3) rfl rfl (by omega) (by omega) (by omega) (nx := 5) rfl ?_
                  refine qW.blk rfl ?_
                  refine qv_iload rfl ?_
                  refine qv_if_eqNf rfl (by omega) (by omega) (nx := 6) rfl ?_
                  refine qW.blk rfl ?_
                  refine qv_iload rfl ?_
                  refine qv_iload rfl ?_
                  refine qv_icmp_eqNf rfl rfl (by omega) (by omega) (by omega) (nx := 7) rfl ?_
                  refine qW.blk rfl ?_
                  refine qv_aload rfl ?_
                  refine qv_iload rfl ?_
                  refine qv_iload rfl ?_
                  refine qv_virtE (ly_163.rcv _) sg_Model_beats rfl rfl (r_M_bts hP (by omega) rv (by omega) (by omega)) ?_
                  refine qv_if_eq_f (bI_ne.mpr (hg)) (nx := 8) rfl ?_
                  refine qW.blk rfl ?_
                  refine qv_iconst (v := 1) rfl ?_
                  refine qv_goto (tgt := 10) rfl ?_
                  refine qW.blk rfl ?_
                  refine qv_istore (L' := [_, _, _, _, _, _, _, _, _]) rfl ?_
                  refine qv_iinc (L' := [_, _, _, _, _, _, _, _, _]) rfl (nI_succ _).symm rfl ?_
                  refine qv_goto (tgt := 4) rfl ?_
                  refine ih2 (y + 1) 1 (by omega) (by omega) ⟨fun _ y' h1 h2 => ?_, fun _ => rfl⟩
                  by_cases e : y' = y
                  · subst e; exact hg
                  · exact hal y' (by omega) h2
                · refine qW.blk rfl ?_
                  refine qv_iload rfl ?_
                  refine qv_iconst (v := 3) rfl ?_
                  refine qv_icmp_geNf (q := 3) rfl rfl (by omega) (by omega) (by omega) (nx := 5) rfl ?_
                  refine qW.blk rfl ?_
                  refine qv_iload rfl ?_
                  refine qv_if_eqNf rfl (by omega) (by omega) (nx := 6) rfl ?_
                  refine qW.blk rfl ?_
                  refine qv_iload rfl ?_
                  refine qv_iload rfl ?_
                  refine qv_icmp_eqNf rfl rfl (by omega) (by omega) (by omega) (nx := 7) rfl ?_
                  refine qW.blk rfl ?_
                  refine qv_aload rfl ?_
                  refine qv_iload rfl ?_
                  refine qv_iload rfl ?_
                  refine qv_virtE (ly_163.rcv _) sg_Model_beats rfl rfl (r_M_bts hP (by omega) rv (by omega) (by omega)) ?_
                  refine qv_if_eq_t (bI_f (hg)) (tgt := 9) rfl ?_
                  refine qW.blk rfl ?_
                  refine qv_iconst (v := 0) rfl ?_
                  refine qv_nil (nx := 10) rfl ?_
                  refine qW.blk rfl ?_
                  refine qv_istore (L' := [_, _, _, _, _, _, _, _, _]) rfl ?_
                  refine qv_iinc (L' := [_, _, _, _, _, _, _, _, _]) rfl (nI_succ _).symm rfl ?_
                  refine qv_goto (tgt := 4) rfl ?_
                  exact ih2 (y + 1) 0 (by omega) (by omega) ⟨fun q => absurd q (by decide), fun q => absurd (q y (by omega) (fun z => exy z.symm)) hg⟩
        refine qW.blk rfl ?_
        refine qv_iload rfl ?_
        refine qv_iconst (v := 3) rfl ?_
        refine qv_icmp_geNf (q := 3) rfl rfl (by omega) (by omega) (by omega) (nx := 3) rfl ?_
        refine qW.blk rfl ?_
        refine qv_iconst (v := 1) rfl ?_
        refine qv_istore (L' := [_, _, _, _, _, _, _, _, _]) rfl ?_
        refine qv_iconst (v := 0) rfl ?_
        refine qv_istore (L' := [_, _, _, _, _, _, _, _, _]) rfl ?_
        refine qv_nil (nx := 4) rfl ?_
        exact inner 3 0 1 rfl (by omega) ⟨fun _ y' h => absurd h (Nat.not_lt_zero _), fun _ => rfl⟩
    have rv0 := rview_ch hr hz1 hz hkd (fun j _ => hl j) h1
    refine qW.blk rfl ?_
    refine qv_aload rfl ?_
    refine qv_iload rfl ?_
    refine qv_virt (ly_163.rcv _) sg_Model_endOf rfl rfl (w_endC hP (by omega) rv0 htt hD hT (fun s1 F1 => ?_)) 
    refine qv_istore (L' := [_, _, _, _, _, _, _, _, _]) rfl ?_
    refine qv_iload rfl ?_
    refine qv_if_neNf rfl (by omega) (by omega) (nx := 1) rfl ?_
    refine qW.blk rfl ?_
    refine qv_iconst (v := 0) rfl ?_
    refine qv_istore (L' := [_, _, _, _, _, _, _, _, _]) rfl ?_
    refine qv_nil (nx := 2) rfl ?_
    exact outer s1 F1.r (rv0.e F1) 3 0 _ _ _ _ rfl (fun x' h => absurd h (Nat.not_lt_zero _))
  · have eb : brk z kd (C 1) D law l ↔ ∃ j, j < z ∧ (if law = 1 then brk1 z kd (C 1) D l j else brk2 z kd (C 1) D l j) := by unfold brk; rw [if_neg hl0]
    obtain ⟨hdj⟩ : Nonempty (∀ j, Decidable (if law = 1 then brk1 z kd (C 1) D l j else brk2 z kd (C 1) D l j)) := ⟨fun _ => Classical.propDecidable _⟩
    have loop : ∀ (k m a : Nat) (s1 : QST) (L6 L7 L8 : Option Value), m + k = z → a < 2 → rfr s s1 → (∀ j, j < z → qE s1 183 j = nI (l j)) → (a = 1 ↔ ∃ j, j < m ∧ (if law = 1 then brk1 z kd (C 1) D l j else brk2 z kd (C 1) D l j)) → qW X PR (d - 1) (some .boolean) cd_Model_breaks 17 [some (.ref (163)), some (.int (nI tt)), some (.int (nI law)), some (.int (nI (cend z kd (C 1) D l))), some (.int (nI a)), some (.int (nI m)), L6, L7, L8] [] s1 Q := by
      intro k
      induction k with
      | zero =>
        intro m a s1 L6 L7 L8 hm ha F1 g1 hiff
        have e : m = z := by omega
        subst e
        have fin := hk s1 F1
        have h35 : qF s1 163 35 = nI m := (hr.fr F1).2.1
        rcases (show a = 0 ∨ a = 1 by omega) with h | h
        · subst h
          rw [bI_f (fun q => absurd (hiff.mpr (eb.mp q)) (by decide))] at fin
          refine qW.blk rfl ?_
          refine qv_iload rfl ?_
          refine qv_aload rfl ?_
          refine qv_gi ly_163 ⟨rfl, rfl, rfl⟩ (h35) ?_
          refine qv_icmp_geNt rfl rfl (by omega) (by omega) (by omega) (tgt := 34) rfl ?_
          refine qW.blk rfl ?_
          refine qv_iload rfl ?_
          refine qv_iret (by first | exact bI_ret | rfl) ?_
          exact fin
        · subst h
          rw [bI_t (eb.mpr (hiff.mp rfl))] at fin
          refine qW.blk rfl ?_
          refine qv_iload rfl ?_
          refine qv_aload rfl ?_
          refine qv_gi ly_163 ⟨rfl, rfl, rfl⟩ (h35) ?_
          refine qv_icmp_geNt rfl rfl (by omega) (by omega) (by omega) (tgt := 34) rfl ?_
          refine qW.blk rfl ?_
          refine qv_iload rfl ?_
          refine qv_iret (by first | exact bI_ret | rfl) ?_
          exact fin
      | succ k ih =>
        intro m a s1 L6 L7 L8 hm ha F1 g1 hiff
        have h35 : qF s1 163 35 = nI z := (hr.fr F1).2.1
        rcases (show a = 0 ∨ a = 1 by omega) with h | h
        · subst h
          have hlm := hl m
          have hp3 := plN_lt (l m) hlm (cend z kd (C 1) D l) (by omega)
          -- behind one member
          have done : ∀ (b : Nat) (s2 : QST) (L8 : Option Value), b < 2 → (b = 1 ↔ (if law = 1 then brk1 z kd (C 1) D l m else brk2 z kd (C 1) D l m)) → rfr s s2 → (∀ j, j < z → j ≠ m → qE s2 183 j = nI (l j)) → qW X PR (d - 1) (some .boolean) cd_Model_breaks 33 [some (.ref (163)), some (.int (nI tt)), some (.int (nI law)), some (.int (nI (cend z kd (C 1) D l))), some (.int (nI b)), some (.int (nI m)), some (.int (nI (l m))), some (.int (nI (plN (l m) (cend z kd (C 1) D l)))), L8] [] s2 Q := by
            intro b s2 L8 hb hbi F2 g2
            refine qW.blk rfl ?_
            refine qv_aload rfl ?_
            refine qv_gr ly_163 ⟨rfl, rfl, rfl⟩ (by omega) ?_
            refine qv_iload rfl ?_
            refine qv_iload rfl ?_
            refine qv_is ly_183 rfl (by omega) (by decide) ?_
            refine qv_iinc (L' := [_, _, _, _, _, _, _, _, _]) rfl (nI_succ _).symm rfl ?_
            refine qv_goto (tgt := 17) rfl ?_
            refine ih (m + 1) b _ _ _ _ (by omega) hb (F2.sE (by omega)) (fun j hj => ?_) ?_
            · by_cases e : j = m
              · subst e; rw [qE_uEs]
              · rw [qE_uEk e]; exact g2 j hj e
            · rw [hbi]
              constructor
              · intro q; exact ⟨m, by omega, q⟩
              · rintro ⟨j, j1, j2⟩
                by_cases e : j = m
                · subst e; exact j2
                · exact absurd (hiff.mpr ⟨j, by omega, j2⟩) (by decide)
          have upd3 : ∀ (o : Nat) (s2 : QST), o < 6 → rfr s s2 → (∀ j, j < z → j ≠ m → qE s2 183 j = nI (l j)) → rview (uE s2 183 m (nI o)) z (wR z kd (C 1) (updN l m o)) := fun o s2 ho F2 g2 => by
            refine rview_ch (hr.fr (F2.sE (by omega))) hz1 hz hkd (fun j _ => ?_) (fun j hj => ?_)
            · by_cases e : j = m
              · subst e; rw [updN_s]; exact ho
              · rw [updN_n e]; exact hl j
            · by_cases e : j = m
              · subst e; rw [qE_uEs, updN_s]
              · rw [qE_uEk e, updN_n e]; exact g2 j hj e
          by_cases hl1 : law = 1
          · subst hl1
            have done1 : ∀ (b : Nat) (s2 : QST) (L8 : Option Value), b < 2 → (b = 1 ↔ brk1 z kd (C 1) D l m) → rfr s s2 → (∀ j, j < z → j ≠ m → qE s2 183 j = nI (l j)) → qW X PR (d - 1) (some .boolean) cd_Model_breaks 25 [some (.ref (163)), some (.int (nI tt)), some (.int (nI 1)), some (.int (nI (cend z kd (C 1) D l))), some (.int (nI b)), some (.int (nI m)), some (.int (nI (l m))), some (.int (nI (plN (l m) (cend z kd (C 1) D l)))), L8] [] s2 Q := fun b s2 L8 hb hbi F2 g2 => by
              refine qW.blk rfl ?_
              refine qv_iconst (v := 0) rfl ?_
              refine qv_istore (L' := [_, _, _, _, _, _, _, _, _]) rfl ?_
              refine qv_nil (nx := 26) rfl ?_
              refine qW.blk rfl ?_
              refine qv_iload rfl ?_
              refine qv_iconst (v := 6) rfl ?_
              refine qv_icmp_geNf (p := 0) (q := 6) rfl rfl (by omega) (by omega) (by omega) (nx := 27) rfl ?_
              refine qW.blk rfl ?_
              refine qv_iload rfl ?_
              refine qv_iconst (v := 2) rfl ?_
              refine qv_icmp_neNt (q := 2) rfl rfl (by omega) (by omega) (by omega) (tgt := 33) rfl ?_
              exact done b s2 _ hb (by rw [if_pos rfl]; exact hbi) F2 g2
            by_cases p0 : plN (l m) (cend z kd (C 1) D l) = 0
            · refine qW.blk rfl ?_
              refine qv_iload rfl ?_
              refine qv_aload rfl ?_
              refine qv_gi ly_163 ⟨rfl, rfl, rfl⟩ (h35) ?_
              refine qv_icmp_geNf rfl rfl (by omega) (by omega) (by omega) (nx := 18) rfl ?_
              refine qW.blk rfl ?_
              refine qv_iload rfl ?_
              refine qv_if_neNf rfl (by omega) (by omega) (nx := 19) rfl ?_
              refine qW.blk rfl ?_
              refine qv_aload rfl ?_
              refine qv_gr ly_163 ⟨rfl, rfl, rfl⟩ (by omega) ?_
              refine qv_iload rfl ?_
              refine qv_ia ly_183 rfl (by omega) (by decide) (g1 m (by omega)) ?_
              refine qv_istore (L' := [_, _, _, _, _, _, _, _, _]) rfl ?_
              refine qv_iload rfl ?_
              refine qv_iload rfl ?_
              refine qv_staticE sg_Model_placeIn rfl (r_placeN hP (by omega) hlm (by omega)) ?_
              refine qv_istore (L' := [_, _, _, _, _, _, _, _, _]) rfl ?_
              refine qv_iload rfl ?_
              refine qv_iconst (v := 1) rfl ?_
              refine qv_icmp_neNf (q := 1) rfl rfl (by omega) (by omega) (by omega) (nx := 20) rfl ?_
              refine qW.blk rfl ?_
              refine qv_iload rfl ?_
              refine qv_if_leNt rfl (by omega) (by omega) (tgt := 25) rfl ?_
              exact done1 0 s1 _ (by omega) ⟨fun q => absurd q (by decide), fun q => by have := q.1; omega⟩ F1 (fun j hj _ => g1 j hj)
            · obtain ⟨_, _, l3, l4⟩ := liN_tb (l m) hlm
              have hli : liN (l m) (plN (l m) (cend z kd (C 1) D l)) < 6 := by
                rcases (show plN (l m) (cend z kd (C 1) D l) = 1 ∨ plN (l m) (cend z kd (C 1) D l) = 2 by omega) with e | e <;> rw [e] <;> assumption
              have rv2 := upd3 _ s1 hli F1 (fun j hj _ => g1 j hj)
              have F2 := F1.sE (c := 183) (k := m) (v := nI (liN (l m) (plN (l m) (cend z kd (C 1) D l)))) (by omega)
              have g2 : ∀ s3, efr (uE s1 183 m (nI (liN (l m) (plN (l m) (cend z kd (C 1) D l))))) s3 → ∀ j, j < z → j ≠ m → qE s3 183 j = nI (l j) := fun s3 F3 j hj hne => by rw [F3.2.1 183 (by omega) (by omega), qE_uEk hne]; exact g1 j hj
              have hc7 := cend_lt (z := z) (kd := kd) (ch := C 1) (l := updN l m (liN (l m) (plN (l m) (cend z kd (C 1) D l)))) hD hE hz hkd
              by_cases hce : cend z kd (C 1) D (updN l m (liN (l m) (plN (l m) (cend z kd (C 1) D l)))) = cend z kd (C 1) D l
              · refine qW.blk rfl ?_
                refine qv_iload rfl ?_
                refine qv_aload rfl ?_
                refine qv_gi ly_163 ⟨rfl, rfl, rfl⟩ (h35) ?_
                refine qv_icmp_geNf rfl rfl (by omega) (by omega) (by omega) (nx := 18) rfl ?_
                refine qW.blk rfl ?_
                refine qv_iload rfl ?_
                refine qv_if_neNf rfl (by omega) (by omega) (nx := 19) rfl ?_
                refine qW.blk rfl ?_
                refine qv_aload rfl ?_
                refine qv_gr ly_163 ⟨rfl, rfl, rfl⟩ (by omega) ?_
                refine qv_iload rfl ?_
                refine qv_ia ly_183 rfl (by omega) (by decide) (g1 m (by omega)) ?_
                refine qv_istore (L' := [_, _, _, _, _, _, _, _, _]) rfl ?_
                refine qv_iload rfl ?_
                refine qv_iload rfl ?_
                refine qv_staticE sg_Model_placeIn rfl (r_placeN hP (by omega) hlm (by omega)) ?_
                refine qv_istore (L' := [_, _, _, _, _, _, _, _, _]) rfl ?_
                refine qv_iload rfl ?_
                refine qv_iconst (v := 1) rfl ?_
                refine qv_icmp_neNf (q := 1) rfl rfl (by omega) (by omega) (by omega) (nx := 20) rfl ?_
                refine qW.blk rfl ?_
                refine qv_iload rfl ?_
                refine qv_if_leNf rfl (by omega) (by omega) (nx := 21) rfl ?_
                refine qW.blk rfl ?_
                refine qv_aload rfl ?_
                refine qv_gr ly_163 ⟨rfl, rfl, rfl⟩ (by omega) ?_
                refine qv_iload rfl ?_
                refine qv_iload rfl ?_
                refine qv_iload rfl ?_
                refine qv_static sg_Model_lifted rfl (w_lifted hP (by omega) hlm (by omega) ?_) 
                refine qv_is ly_183 rfl (by omega) (by decide) ?_
                refine qv_aload rfl ?_
                refine qv_iload rfl ?_
                refine qv_virt (ly_163.rcv _) sg_Model_endOf rfl rfl (w_endC hP (by omega) rv2 htt hD (hTf _ F2) (fun s3 F3 => ?_)) 
                refine qv_iload rfl ?_
                refine qv_icmp_eqNt rfl rfl (by omega) (by omega) (by omega) (tgt := 23) rfl ?_
                refine qW.blk rfl ?_
                refine qv_iconst (v := 0) rfl ?_
                refine qv_nil (nx := 24) rfl ?_
                refine qW.blk rfl ?_
                refine qv_istore (L' := [_, _, _, _, _, _, _, _, _]) rfl ?_
                refine qv_nil (nx := 25) rfl ?_
                exact done1 0 s3 _ (by omega) ⟨fun q => absurd q (by decide), fun q => absurd hce q.2⟩ (F2.trans F3.r) (g2 s3 F3)
              · refine qW.blk rfl ?_
                refine qv_iload rfl ?_
                refine qv_aload rfl ?_
                refine qv_gi ly_163 ⟨rfl, rfl, rfl⟩ (h35) ?_
                refine qv_icmp_geNf rfl rfl (by omega) (by omega) (by omega) (nx := 18) rfl ?_
                refine qW.blk rfl ?_
                refine qv_iload rfl ?_
                refine qv_if_neNf rfl (by omega) (by omega) (nx := 19) rfl ?_
                refine qW.blk rfl ?_
                refine qv_aload rfl ?_
                refine qv_gr ly_163 ⟨rfl, rfl, rfl⟩ (by omega) ?_
                refine qv_iload rfl ?_
                refine qv_ia ly_183 rfl (by omega) (by decide) (g1 m (by omega)) ?_
                refine qv_istore (L' := [_, _, _, _, _, _, _, _, _]) rfl ?_
                refine qv_iload rfl ?_
                refine qv_iload rfl ?_
                refine qv_staticE sg_Model_placeIn rfl (r_placeN hP (by omega) hlm (by omega)) ?_
                refine qv_istore (L' := [_, _, _, _, _, _, _, _, _]) rfl ?_
                refine qv_iload rfl ?_
                refine qv_iconst (v := 1) rfl ?_
                refine qv_icmp_neNf (q := 1) rfl rfl (by omega) (by omega) (by omega) (nx := 20) rfl ?_
                refine qW.blk rfl ?_
                refine qv_iload rfl ?_
                refine qv_if_leNf rfl (by omega) (by omega) (nx := 21) rfl ?_
                refine qW.blk rfl ?_
                refine qv_aload rfl ?_
                refine qv_gr ly_163 ⟨rfl, rfl, rfl⟩ (by omega) ?_
                refine qv_iload rfl ?_
                refine qv_iload rfl ?_
                refine qv_iload rfl ?_
                refine qv_static sg_Model_lifted rfl (w_lifted hP (by omega) hlm (by omega) ?_) 
                refine qv_is ly_183 rfl (by omega) (by decide) ?_
                refine qv_aload rfl ?_
                refine qv_iload rfl ?_
                refine qv_virt (ly_163.rcv _) sg_Model_endOf rfl rfl (w_endC hP (by omega) rv2 htt hD (hTf _ F2) (fun s3 F3 => ?_)) 
                refine qv_iload rfl ?_
                refine qv_icmp_eqNf rfl rfl (by omega) (by omega) (by omega) (nx := 22) rfl ?_
                refine qW.blk rfl ?_
                refine qv_iconst (v := 1) rfl ?_
                refine qv_goto (tgt := 24) rfl ?_
                refine qW.blk rfl ?_
                refine qv_istore (L' := [_, _, _, _, _, _, _, _, _]) rfl ?_
                refine qv_nil (nx := 25) rfl ?_
                exact done1 1 s3 _ (by omega) ⟨fun _ => ⟨by omega, hce⟩, fun _ => rfl⟩ (F2.trans F3.r) (g2 s3 F3)
          · have hl2 : law = 2 := by omega
            subst hl2
            rw [if_neg (by decide)] at done
            have tries : ∀ (k2 o b : Nat) (s2 : QST), o + k2 = 6 → b < 2 → (b = 1 ↔ ∃ o', o' < o ∧ plN (l m) (cend z kd (C 1) D (updN l m o')) < plN (l m) (cend z kd (C 1) D l)) → rfr s s2 → (∀ j, j < z → j ≠ m → qE s2 183 j = nI (l j)) → qW X PR (d - 1) (some .boolean) cd_Model_breaks 26 [some (.ref (163)), some (.int (nI tt)), some (.int (nI 2)), some (.int (nI (cend z kd (C 1) D l))), some (.int (nI b)), some (.int (nI m)), some (.int (nI (l m))), some (.int (nI (plN (l m) (cend z kd (C 1) D l)))), some (.int (nI o))] [] s2 Q := by
              intro k2
              induction k2 with
              | zero =>
                intro o b s2 ho hb hbi F2 g2
                have e : o = 6 := by omega
                subst e
                refine qW.blk rfl ?_
                refine qv_iload rfl ?_
                refine qv_iconst (v := 6) rfl ?_
                refine qv_icmp_geNt (q := 6) rfl rfl (by omega) (by omega) (by omega) (tgt := 33) rfl ?_
                exact done b s2 _ hb hbi F2 g2
              | succ k2 ih2 =>
                intro o b s2 ho hb hbi F2 g2
                rcases (show b = 0 ∨ b = 1 by omega) with h | h
                · subst h
                  have rv2 := upd3 o s2 (by omega) F2 g2
                  have F3 := F2.sE (c := 183) (k := m) (v := nI o) (by omega)
                  have g3 : ∀ s3, efr (uE s2 183 m (nI o)) s3 → ∀ j, j < z → j ≠ m → qE s3 183 j = nI (l j) := fun s3 F4 j hj hne => by rw [F4.2.1 183 (by omega) (by omega), qE_uEk hne]; exact g2 j hj hne
                  have hc7 := cend_lt (z := z) (kd := kd) (ch := C 1) (l := updN l m o) hD hE hz hkd
                  have hq3 := plN_lt (l m) hlm (cend z kd (C 1) D (updN l m o)) (by omega)
                  by_cases hg : plN (l m) (cend z kd (C 1) D (updN l m o)) < plN (l m) (cend z kd (C 1) D l)
                  · refine qW.blk rfl ?_
                    refine qv_iload rfl ?_
                    refine qv_iconst (v := 6) rfl ?_
                    refine qv_icmp_geNf (q := 6) rfl rfl (by omega) (by omega) (by omega) (nx := 27) rfl ?_
                    refine qW.blk rfl ?_
                    refine qv_iload rfl ?_
                    refine qv_iconst (v := 2) rfl ?_
                    refine qv_icmp_neNf (q := 2) rfl rfl (by omega) (by omega) (by omega) (nx := 28) rfl ?_
                    refine qW.blk rfl ?_
                    refine qv_iload rfl ?_
                    refine qv_if_neNf rfl (by omega) (by omega) (nx := 29) rfl ?_
                    refine qW.blk rfl ?_
                    refine qv_aload rfl ?_
                    refine qv_gr ly_163 ⟨rfl, rfl, rfl⟩ (by omega) ?_
                    refine qv_iload rfl ?_
                    refine qv_iload rfl ?_
                    refine qv_is ly_183 rfl (by omega) (by decide) ?_
                    refine qv_iload rfl ?_
                    refine qv_aload rfl ?_
                    refine qv_iload rfl ?_
                    refine qv_virt (ly_163.rcv _) sg_Model_endOf rfl rfl (w_endC hP (by omega) rv2 htt hD (hTf _ F3) (fun s3 F4 => ?_)) 
                    refine qv_staticE sg_Model_placeIn rfl (r_placeN hP (by omega) hlm (by omega)) ?_
                    refine qv_iload rfl ?_
                    refine qv_icmp_geNf rfl rfl (by omega) (by omega) (by omega) (nx := 30) rfl ?_
                    refine qW.blk rfl ?_
                    refine qv_iconst (v := 1) rfl ?_
                    refine qv_goto (tgt := 32) rfl ?_
                    refine qW.blk rfl ?_
                    refine qv_istore (L' := [_, _, _, _, _, _, _, _, _]) rfl ?_
                    refine qv_iinc (L' := [_, _, _, _, _, _, _, _, _]) rfl (nI_succ _).symm rfl ?_
                    refine qv_goto (tgt := 26) rfl ?_
                    exact ih2 (o + 1) 1 s3 (by omega) (by omega) ⟨fun _ => ⟨o, by omega, hg⟩, fun _ => rfl⟩ (F3.trans F4.r) (g3 s3 F4)
                  · refine qW.blk rfl ?_
                    refine qv_iload rfl ?_
                    refine qv_iconst (v := 6) rfl ?_
                    refine qv_icmp_geNf (q := 6) rfl rfl (by omega) (by omega) (by omega) (nx := 27) rfl ?_
                    refine qW.blk rfl ?_
                    refine qv_iload rfl ?_
                    refine qv_iconst (v := 2) rfl ?_
                    refine qv_icmp_neNf (q := 2) rfl rfl (by omega) (by omega) (by omega) (nx := 28) rfl ?_
                    refine qW.blk rfl ?_
                    refine qv_iload rfl ?_
                    refine qv_if_neNf rfl (by omega) (by omega) (nx := 29) rfl ?_
                    refine qW.blk rfl ?_
                    refine qv_aload rfl ?_
                    refine qv_gr ly_163 ⟨rfl, rfl, rfl⟩ (by omega) ?_
                    refine qv_iload rfl ?_
                    refine qv_iload rfl ?_
                    refine qv_is ly_183 rfl (by omega) (by decide) ?_
                    refine qv_iload rfl ?_
                    refine qv_aload rfl ?_
                    refine qv_iload rfl ?_
                    refine qv_virt (ly_163.rcv _) sg_Model_endOf rfl rfl (w_endC hP (by omega) rv2 htt hD (hTf _ F3) (fun s3 F4 => ?_)) 
                    refine qv_staticE sg_Model_placeIn rfl (r_placeN hP (by omega) hlm (by omega)) ?_
                    refine qv_iload rfl ?_
                    refine qv_icmp_geNt rfl rfl (by omega) (by omega) (by omega) (tgt := 31) rfl ?_
                    refine qW.blk rfl ?_
                    refine qv_iconst (v := 0) rfl ?_
                    refine qv_nil (nx := 32) rfl ?_
                    refine qW.blk rfl ?_
                    refine qv_istore (L' := [_, _, _, _, _, _, _, _, _]) rfl ?_
                    refine qv_iinc (L' := [_, _, _, _, _, _, _, _, _]) rfl (nI_succ _).symm rfl ?_
                    refine qv_goto (tgt := 26) rfl ?_
                    refine ih2 (o + 1) 0 s3 (by omega) (by omega) ⟨fun q => absurd q (by decide), ?_⟩ (F3.trans F4.r) (g3 s3 F4)
                    rintro ⟨o', q1, q2⟩
                    by_cases e : o' = o
                    · subst e; exact absurd q2 hg
                    · exact absurd (hbi.mpr ⟨o', by omega, q2⟩) (by decide)
                · subst h
                  refine qW.blk rfl ?_
                  refine qv_iload rfl ?_
                  refine qv_iconst (v := 6) rfl ?_
                  refine qv_icmp_geNf (q := 6) rfl rfl (by omega) (by omega) (by omega) (nx := 27) rfl ?_
                  refine qW.blk rfl ?_
                  refine qv_iload rfl ?_
                  refine qv_iconst (v := 2) rfl ?_
                  refine qv_icmp_neNf (q := 2) rfl rfl (by omega) (by omega) (by omega) (nx := 28) rfl ?_
                  refine qW.blk rfl ?_
                  refine qv_iload rfl ?_
                  refine qv_if_neNt rfl (by omega) (by omega) (tgt := 33) rfl ?_
                  refine done 1 s2 _ (by omega) ⟨fun _ => ?_, fun _ => rfl⟩ F2 g2
                  obtain ⟨o', q1, q2⟩ := hbi.mp rfl
                  exact ⟨o', by omega, q2⟩
            refine qW.blk rfl ?_
            refine qv_iload rfl ?_
            refine qv_aload rfl ?_
            refine qv_gi ly_163 ⟨rfl, rfl, rfl⟩ (h35) ?_
            refine qv_icmp_geNf rfl rfl (by omega) (by omega) (by omega) (nx := 18) rfl ?_
            refine qW.blk rfl ?_
            refine qv_iload rfl ?_
            refine qv_if_neNf rfl (by omega) (by omega) (nx := 19) rfl ?_
            refine qW.blk rfl ?_
            refine qv_aload rfl ?_
            refine qv_gr ly_163 ⟨rfl, rfl, rfl⟩ (by omega) ?_
            refine qv_iload rfl ?_
            refine qv_ia ly_183 rfl (by omega) (by decide) (g1 m (by omega)) ?_
            refine qv_istore (L' := [_, _, _, _, _, _, _, _, _]) rfl ?_
            refine qv_iload rfl ?_
            refine qv_iload rfl ?_
            refine qv_staticE sg_Model_placeIn rfl (r_placeN hP (by omega) hlm (by omega)) ?_
            refine qv_istore (L' := [_, _, _, _, _, _, _, _, _]) rfl ?_
            refine qv_iload rfl ?_
            refine qv_iconst (v := 1) rfl ?_
            refine qv_icmp_neNt (q := 1) rfl rfl (by omega) (by omega) (by omega) (tgt := 25) rfl ?_
            refine qW.blk rfl ?_
            refine qv_iconst (v := 0) rfl ?_
            refine qv_istore (L' := [_, _, _, _, _, _, _, _, _]) rfl ?_
            refine qv_nil (nx := 26) rfl ?_
            exact tries 6 0 0 s1 rfl (by omega) ⟨fun q => absurd q (by decide), fun ⟨o', q, _⟩ => absurd q (Nat.not_lt_zero _)⟩ F1 (fun j hj _ => g1 j hj)
        · subst h
          have fin := hk s1 F1
          obtain ⟨j, j1, j2⟩ := hiff.mp rfl
          rw [bI_t (eb.mpr ⟨j, by omega, j2⟩)] at fin
          refine qW.blk rfl ?_
          refine qv_iload rfl ?_
          refine qv_aload rfl ?_
          refine qv_gi ly_163 ⟨rfl, rfl, rfl⟩ (h35) ?_
          refine qv_icmp_geNf rfl rfl (by omega) (by omega) (by omega) (nx := 18) rfl ?_
          refine qW.blk rfl ?_
          refine qv_iload rfl ?_
          refine qv_if_neNt rfl (by omega) (by omega) (tgt := 34) rfl ?_
          refine qW.blk rfl ?_
          refine qv_iload rfl ?_
          refine qv_iret (by first | exact bI_ret | rfl) ?_
          exact fin
    have rv0 := rview_ch hr hz1 hz hkd (fun j _ => hl j) h1
    refine qW.blk rfl ?_
    refine qv_aload rfl ?_
    refine qv_iload rfl ?_
    refine qv_virt (ly_163.rcv _) sg_Model_endOf rfl rfl (w_endC hP (by omega) rv0 htt hD hT (fun s1 F1 => ?_)) 
    refine qv_istore (L' := [_, _, _, _, _, _, _, _, _]) rfl ?_
    refine qv_iload rfl ?_
    refine qv_if_neNt rfl (by omega) (by omega) (tgt := 16) rfl ?_
    refine qW.blk rfl ?_
    refine qv_iconst (v := 0) rfl ?_
    refine qv_istore (L' := [_, _, _, _, _, _, _, _, _]) rfl ?_
    refine qv_iconst (v := 0) rfl ?_
    refine qv_istore (L' := [_, _, _, _, _, _, _, _, _]) rfl ?_
    refine qv_nil (nx := 17) rfl ?_
    exact loop z 0 0 s1 _ _ _ (by omega) (by omega) F1.r (fun j hj => by rw [F1.2.1 183 (by omega) (by omega)]; exact h1 j hj) ⟨fun q => absurd q (by decide), fun ⟨j, q, _⟩ => absurd q (Nat.not_lt_zero _)⟩
end
