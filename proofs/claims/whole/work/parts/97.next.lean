/-! the class's next row -/
def swp (p : Nat → Nat) (i j x : Nat) : Nat := if x = i then p j else if x = j then p i else p x
/-- the row behind p, turned at t, t changed with j -/
def nxr (p : Nat → Nat) (z t j x : Nat) : Nat := if x ≤ t then swp p t j x else swp p t j (z + t - x)
theorem rev_step {q : Nat → Nat} {z t m x : Nat} (h : t + 1 + m < z - 1 - m) : swp (fun x => if (t < x ∧ x < t + 1 + m) ∨ z - 1 - m < x then q (z + t - x) else q x) (t + 1 + m) (z - 1 - m) x = if (t < x ∧ x < t + 1 + (m + 1)) ∨ z - 1 - (m + 1) < x then q (z + t - x) else q x := by
  unfold swp
  by_cases e1 : x = t + 1 + m
  · rw [if_pos e1, if_pos (show (t < x ∧ x < t + 1 + (m + 1)) ∨ z - 1 - (m + 1) < x by omega)]
    show (if (t < z - 1 - m ∧ z - 1 - m < t + 1 + m) ∨ z - 1 - m < z - 1 - m then q (z + t - (z - 1 - m)) else q (z - 1 - m)) = _
    rw [if_neg (by omega)]
    exact congrArg q (by omega)
  · rw [if_neg e1]
    by_cases e2 : x = z - 1 - m
    · rw [if_pos e2, if_pos (show (t < x ∧ x < t + 1 + (m + 1)) ∨ z - 1 - (m + 1) < x by omega)]
      show (if (t < t + 1 + m ∧ t + 1 + m < t + 1 + m) ∨ z - 1 - m < t + 1 + m then q (z + t - (t + 1 + m)) else q (t + 1 + m)) = _
      rw [if_neg (by omega)]
      exact congrArg q (by omega)
    · rw [if_neg e2]
      by_cases c : (t < x ∧ x < t + 1 + m) ∨ z - 1 - m < x
      · rw [if_pos (show (t < x ∧ x < t + 1 + (m + 1)) ∨ z - 1 - (m + 1) < x by omega)]
        show (if (t < x ∧ x < t + 1 + m) ∨ z - 1 - m < x then q (z + t - x) else q x) = _
        rw [if_pos c]
      · rw [if_neg (show ¬ ((t < x ∧ x < t + 1 + (m + 1)) ∨ z - 1 - (m + 1) < x) by omega)]
        show (if (t < x ∧ x < t + 1 + m) ∨ z - 1 - m < x then q (z + t - x) else q x) = _
        rw [if_neg c]
section
variable {X : pm_X} {PR : pm_P} {s : QST} {Q : QPost}
theorem w_change (hP : pm_np PR) {d : Nat} (hd : 1 ≤ d) {B i j z : Nat} {p : Nat → Nat} (hB : qLY B (0, 7, [])) (hi : i < z) (hj : j < z) (hz : z ≤ 7) (h1 : ∀ x, x < z → qE s B x = nI (p x)) (hk : ∀ s', qfr B B s s' → (∀ x, x < z → qE s' B x = nI (swp p i j x)) → Q none s') : qP X PR d 65 [.ref B, .int (nI i), .int (nI j)] s Q := by
  refine qP.of (L := [_, _, _, _]) (by omega) (hP _ rfl) ms_Orders_change rfl ?_
  show qW X PR (d - 1) (none) cd_Orders_change 0 _ _ _ _
  refine qW.blk rfl ?_
  refine qv_aload rfl ?_
  refine qv_iload rfl ?_
  refine qv_ia hB rfl (by omega) (by decide) (h1 i hi) ?_
  refine qv_istore (L' := [_, _, _, _]) rfl ?_
  refine qv_aload rfl ?_
  refine qv_iload rfl ?_
  refine qv_aload rfl ?_
  refine qv_iload rfl ?_
  refine qv_ia hB rfl (by omega) (by decide) (h1 j hj) ?_
  refine qv_is hB rfl (by omega) (by decide) ?_
  refine qv_aload rfl ?_
  refine qv_iload rfl ?_
  refine qv_iload rfl ?_
  refine qv_is hB rfl (by omega) (by decide) ?_
  refine qv_ret rfl ?_
  refine hk _ (((qfr.rf s).uE ⟨Nat.le_refl _, Nat.le_refl _⟩).uE ⟨Nat.le_refl _, Nat.le_refl _⟩) (fun x hx => ?_)
  unfold swp
  by_cases e2 : x = j
  · subst e2
    rw [qE_uEs]
    by_cases e1 : x = i
    · rw [if_pos e1, e1]
    · rw [if_neg e1, if_pos rfl]
  · rw [qE_uEk e2]
    by_cases e1 : x = i
    · subst e1; rw [qE_uEs, if_pos rfl]
    · rw [qE_uEk e1, if_neg e1, if_neg e2]; exact h1 x hx
theorem w_nextRow (hP : pm_np PR) {d : Nat} (hd : 2 ≤ d) {B a z t j : Nat} {p : Nat → Nat} (hB : qLY B (0, 7, [])) (hz : z ≤ 7) (h1 : ∀ x, x < z → qE s B x = nI (p x)) (hp : ∀ x, x < z → p x < 8) (ht1 : a ≤ t) (ht2 : t + 1 < z) (ht3 : p t ≤ p (t + 1)) (ht4 : ∀ u, t < u → u + 1 < z → p (u + 1) < p u) (hj1 : t < j) (hj2 : j < z) (hj3 : j = t + 1 ∨ p t ≤ p j) (hj4 : ∀ u, j < u → u < z → p u < p t) (hk : ∀ s', qfr B B s s' → (∀ x, x < z → qE s' B x = nI (nxr p z t j x)) → Q (some (.int 1)) s') : qP X PR d 64 [.ref B, .int (nI a), .int (nI z)] s Q := by
  refine qP.of (L := [_, _, _, _, _, _, _]) (by omega) (hP _ rfl) ms_Orders_nextRow rfl ?_
  show qW X PR (d - 1) (some .boolean) cd_Orders_nextRow 0 _ _ _ _
  have b11 : ∀ (c m : Nat) (s1 : QST), t + 1 + m + c = z → qfr B B s s1 → t + 1 + m ≤ z - m → (∀ x, x < z → qE s1 B x = nI (if (t < x ∧ x < t + 1 + m) ∨ z - 1 - m < x then swp p t j (z + t - x) else swp p t j x)) → qW X PR (d - 1) (some .boolean) cd_Orders_nextRow 11 [some (.ref (B)), some (.int (nI a)), some (.int (nI z)), some (.int (nI t)), some (.int (nI j)), some (.int (nI (t + 1 + m))), some (.int (nI (z - 1 - m)))] [] s1 Q := by
    intro c
    induction c with
    | zero =>
      intro m s1 hm F1 hle g1
      omega
    | succ c ih =>
      intro m s1 hm F1 hle g1
      by_cases hlt : t + 1 + m < z - 1 - m
      · have hv : nI (z - 1 - m) + Int32.ofInt (-1) = nI (z - 1 - (m + 1)) := by
          rw [dec_eq, show z - 1 - m = z - 1 - (m + 1) + 1 by omega, nI_dec]
        refine qW.blk rfl ?_
        refine qv_iload rfl ?_
        refine qv_iload rfl ?_
        refine qv_icmp_geNf rfl rfl (by omega) (by omega) (by omega) (nx := 12) rfl ?_
        refine qW.blk rfl ?_
        refine qv_aload rfl ?_
        refine qv_iload rfl ?_
        refine qv_iload rfl ?_
        refine qv_static sg_Orders_change rfl (w_change hP (by omega) hB (show t + 1 + m < z by omega) (show z - 1 - m < z by omega) hz g1 (fun s2 F2 g2 => ?_)) 
        refine qv_iinc (L' := [_, _, _, _, _, _, _]) rfl (nI_succ _).symm rfl ?_
        refine qv_iinc (L' := [_, _, _, _, _, _, _]) rfl (hv) rfl ?_
        refine qv_goto (tgt := 11) rfl ?_
        refine ih (m + 1) s2 (by omega) (F1.trans F2) (by omega) (fun x hx => ?_)
        rw [g2 x hx]
        exact congrArg nI (rev_step hlt)
      · refine qW.blk rfl ?_
        refine qv_iload rfl ?_
        refine qv_iload rfl ?_
        refine qv_icmp_geNt rfl rfl (by omega) (by omega) (by omega) (tgt := 13) rfl ?_
        refine qW.blk rfl ?_
        refine qv_iconst (v := 1) rfl ?_
        refine qv_iret (by first | exact bI_ret | rfl) ?_
        refine hk s1 F1 (fun x hx => ?_)
        rw [g1 x hx]
        refine congrArg nI ?_
        unfold nxr
        by_cases hxt : x ≤ t
        · rw [if_pos hxt, if_neg (by omega)]
        · rw [if_neg hxt]
          by_cases hc : (t < x ∧ x < t + 1 + m) ∨ z - 1 - m < x
          · rw [if_pos hc]
          · rw [if_neg hc, show z + t - x = x by omega]
  have b7 : ∀ (c y : Nat), y = j + c → y < z → qW X PR (d - 1) (some .boolean) cd_Orders_nextRow 7 [some (.ref (B)), some (.int (nI a)), some (.int (nI z)), some (.int (nI t)), some (.int (nI y)), none, none] [] s Q := by
    intro c
    induction c with
    | zero =>
      intro y hy hyz
      have e : y = j := by omega
      subst e
      have nx := fun (s2 : QST) (F2 : qfr B B s s2) (g2 : ∀ x, x < z → qE s2 B x = nI (swp p t y x)) => b11 (z - (t + 1)) 0 s2 (by omega) F2 (by omega) (fun x hx => by rw [if_neg (by omega)]; exact g2 x hx)
      by_cases h : y = t + 1
      · refine qW.blk rfl ?_
        refine qv_iload rfl ?_
        refine qv_iload rfl ?_
        refine qv_iconst (v := 1) rfl ?_
        refine qv_iaddN (q := 1) rfl rfl ?_
        refine qv_icmp_leNt rfl rfl (by omega) (by omega) (by omega) (tgt := 10) rfl ?_
        refine qW.blk rfl ?_
        refine qv_aload rfl ?_
        refine qv_iload rfl ?_
        refine qv_iload rfl ?_
        refine qv_static sg_Orders_change rfl (w_change hP (by omega) hB (show t < z by omega) hyz hz h1 (fun s2 F2 g2 => ?_)) 
        refine qv_iload rfl ?_
        refine qv_iconst (v := 1) rfl ?_
        refine qv_iaddN (q := 1) rfl rfl ?_
        refine qv_istore (L' := [_, _, _, _, _, _, _]) rfl ?_
        refine qv_iload rfl ?_
        refine qv_iconst (v := 1) rfl ?_
        refine qv_isubN (q := 1) rfl rfl (by omega) ?_
        refine qv_istore (L' := [_, _, _, _, _, _, _]) rfl ?_
        refine qv_nil (nx := 11) rfl ?_
        exact nx s2 F2 g2
      · have h2 : p t ≤ p y := by rcases hj3 with q | q; exact absurd q h; exact q
        have b1 := hp y hyz
        have b2 := hp t (by omega)
        refine qW.blk rfl ?_
        refine qv_iload rfl ?_
        refine qv_iload rfl ?_
        refine qv_iconst (v := 1) rfl ?_
        refine qv_iaddN (q := 1) rfl rfl ?_
        refine qv_icmp_leNf rfl rfl (by omega) (by omega) (by omega) (nx := 8) rfl ?_
        refine qW.blk rfl ?_
        refine qv_aload rfl ?_
        refine qv_iload rfl ?_
        refine qv_ia hB rfl (by omega) (by decide) (h1 y hyz) ?_
        refine qv_aload rfl ?_
        refine qv_iload rfl ?_
        refine qv_ia hB rfl (by omega) (by decide) (h1 t (by omega)) ?_
        refine qv_icmp_geNt rfl rfl (by omega) (by omega) (by omega) (tgt := 10) rfl ?_
        refine qW.blk rfl ?_
        refine qv_aload rfl ?_
        refine qv_iload rfl ?_
        refine qv_iload rfl ?_
        refine qv_static sg_Orders_change rfl (w_change hP (by omega) hB (show t < z by omega) hyz hz h1 (fun s2 F2 g2 => ?_)) 
        refine qv_iload rfl ?_
        refine qv_iconst (v := 1) rfl ?_
        refine qv_iaddN (q := 1) rfl rfl ?_
        refine qv_istore (L' := [_, _, _, _, _, _, _]) rfl ?_
        refine qv_iload rfl ?_
        refine qv_iconst (v := 1) rfl ?_
        refine qv_isubN (q := 1) rfl rfl (by omega) ?_
        refine qv_istore (L' := [_, _, _, _, _, _, _]) rfl ?_
        refine qv_nil (nx := 11) rfl ?_
        exact nx s2 F2 g2
    | succ c ih =>
      intro y hy hyz
      have h2 := hj4 y (by omega) hyz
      have b2 := hp t (by omega)
      have hv : nI y + Int32.ofInt (-1) = nI (y - 1) := by
        rw [dec_eq, show y = y - 1 + 1 by omega, nI_dec]; rfl
      refine qW.blk rfl ?_
      refine qv_iload rfl ?_
      refine qv_iload rfl ?_
      refine qv_iconst (v := 1) rfl ?_
      refine qv_iaddN (q := 1) rfl rfl ?_
      refine qv_icmp_leNf rfl rfl (by omega) (by omega) (by omega) (nx := 8) rfl ?_
      refine qW.blk rfl ?_
      refine qv_aload rfl ?_
      refine qv_iload rfl ?_
      refine qv_ia hB rfl (by omega) (by decide) (h1 y hyz) ?_
      refine qv_aload rfl ?_
      refine qv_iload rfl ?_
      refine qv_ia hB rfl (by omega) (by decide) (h1 t (by omega)) ?_
      refine qv_icmp_geNf rfl rfl (by omega) (by omega) (by omega) (nx := 9) rfl ?_
      refine qW.blk rfl ?_
      refine qv_iinc (L' := [_, _, _, _, _, _, _]) rfl (hv) rfl ?_
      refine qv_goto (tgt := 7) rfl ?_
      exact ih (y - 1) (by omega) (by omega)
  have b1 : ∀ (c y : Nat), y = t + c → y + 1 < z → qW X PR (d - 1) (some .boolean) cd_Orders_nextRow 1 [some (.ref (B)), some (.int (nI a)), some (.int (nI z)), some (.int (nI y)), none, none, none] [] s Q := by
    intro c
    induction c with
    | zero =>
      intro y hy hyz
      have e : y = t := by omega
      subst e
      have b1 := hp y (by omega)
      have b2 := hp (y + 1) hyz
      refine qW.blk rfl ?_
      refine qv_iload rfl ?_
      refine qv_iload rfl ?_
      refine qv_icmp_ltNf rfl rfl (by omega) (by omega) (by omega) (nx := 2) rfl ?_
      refine qW.blk rfl ?_
      refine qv_aload rfl ?_
      refine qv_iload rfl ?_
      refine qv_ia hB rfl (by omega) (by decide) (h1 y (by omega)) ?_
      refine qv_aload rfl ?_
      refine qv_iload rfl ?_
      refine qv_iconst (v := 1) rfl ?_
      refine qv_iaddN (q := 1) rfl rfl ?_
      refine qv_ia hB rfl (by omega) (by decide) (h1 (y + 1) hyz) ?_
      refine qv_icmp_leNt rfl rfl (by omega) (by omega) (by omega) (tgt := 4) rfl ?_
      refine qW.blk rfl ?_
      refine qv_iload rfl ?_
      refine qv_iload rfl ?_
      refine qv_icmp_geNt rfl rfl (by omega) (by omega) (by omega) (tgt := 6) rfl ?_
      refine qW.blk rfl ?_
      refine qv_iload rfl ?_
      refine qv_iconst (v := 1) rfl ?_
      refine qv_isubN (q := 1) rfl rfl (by omega) ?_
      refine qv_istore (L' := [_, _, _, _, _, _, _]) rfl ?_
      refine qv_nil (nx := 7) rfl ?_
      exact b7 (z - 1 - j) (z - 1) (by omega) (by omega)
    | succ c ih =>
      intro y hy hyz
      have h2 := ht4 y (by omega) hyz
      have b1 := hp y (by omega)
      have hv : nI y + Int32.ofInt (-1) = nI (y - 1) := by
        rw [dec_eq, show y = y - 1 + 1 by omega, nI_dec]; rfl
      refine qW.blk rfl ?_
      refine qv_iload rfl ?_
      refine qv_iload rfl ?_
      refine qv_icmp_ltNf rfl rfl (by omega) (by omega) (by omega) (nx := 2) rfl ?_
      refine qW.blk rfl ?_
      refine qv_aload rfl ?_
      refine qv_iload rfl ?_
      refine qv_ia hB rfl (by omega) (by decide) (h1 y (by omega)) ?_
      refine qv_aload rfl ?_
      refine qv_iload rfl ?_
      refine qv_iconst (v := 1) rfl ?_
      refine qv_iaddN (q := 1) rfl rfl ?_
      refine qv_ia hB rfl (by omega) (by decide) (h1 (y + 1) hyz) ?_
      refine qv_icmp_leNf rfl rfl (by omega) (by omega) (by omega) (nx := 3) rfl ?_
      refine qW.blk rfl ?_
      refine qv_iinc (L' := [_, _, _, _, _, _, _]) rfl (hv) rfl ?_
      refine qv_goto (tgt := 1) rfl ?_
      exact ih (y - 1) (by omega) (by omega)
  refine qW.blk rfl ?_
  refine qv_iload rfl ?_
  refine qv_iconst (v := 2) rfl ?_
  refine qv_isubN (q := 2) rfl rfl (by omega) ?_
  refine qv_istore (L' := [_, _, _, _, _, _, _]) rfl ?_
  refine qv_nil (nx := 1) rfl ?_
  exact b1 (z - 2 - t) (z - 2) (by omega) (by omega)
end
