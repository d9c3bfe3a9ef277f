/-! how many ORDERS; a set of ENDS spread into a row -/
def fct : Nat → Nat
  | 0 => 1
  | n + 1 => fct n * (n + 1)
theorem fct7 : ∀ n, n < 8 → fct n ≤ 5040 ∧ 0 < fct n := by decide +kernel
def spl (T : Nat) : Nat → List Nat
  | 0 => []
  | m + 1 => if btn T m then spl T m ++ [m] else spl T m
theorem spl_le {T : Nat} : ∀ m, (spl T m).length ≤ m := by
  intro m
  induction m with
  | zero => exact Nat.le_refl _
  | succ m ih =>
    unfold spl
    split
    · rw [List.length_append]; show (spl T m).length + 1 ≤ m + 1; omega
    · omega
theorem spl_lt {T : Nat} : ∀ m, (∀ i, i < (spl T m).length → (spl T m).getD i 0 < m ∧ btn T ((spl T m).getD i 0)) ∧ (∀ i j, i < j → j < (spl T m).length → (spl T m).getD i 0 < (spl T m).getD j 0) ∧ ∀ y, y < m → btn T y → ∃ i, i < (spl T m).length ∧ (spl T m).getD i 0 = y := by
  intro m
  induction m with
  | zero => exact ⟨fun i h => absurd h (Nat.not_lt_zero _), fun i j _ h => absurd h (Nat.not_lt_zero _), fun y h => absurd h (Nat.not_lt_zero _)⟩
  | succ m ih =>
    obtain ⟨i1, i2, i3⟩ := ih
    by_cases hb : btn T m
    · have e : spl T (m + 1) = spl T m ++ [m] := if_pos hb
      have hl : (spl T m ++ [m]).length = (spl T m).length + 1 := by rw [List.length_append]; rfl
      rw [e, hl]
      refine ⟨fun i h => ?_, fun i j hij h => ?_, fun y hy hyb => ?_⟩
      · rw [getD_snoc]
        by_cases q : i < (spl T m).length
        · rw [if_pos q]; have := i1 i q; exact ⟨by omega, this.2⟩
        · rw [if_neg q, if_pos (by omega)]; exact ⟨by omega, hb⟩
      · rw [getD_snoc, getD_snoc, if_pos (by omega)]
        by_cases q : j < (spl T m).length
        · rw [if_pos q]; exact i2 i j hij q
        · rw [if_neg q, if_pos (by omega)]; exact (i1 i (by omega)).1
      · by_cases q : y = m
        · subst q; exact ⟨(spl T y).length, by omega, by rw [getD_snoc, if_neg (Nat.lt_irrefl _), if_pos rfl]⟩
        · obtain ⟨i, q1, q2⟩ := i3 y (by omega) hyb
          exact ⟨i, by omega, by rw [getD_snoc, if_pos q1]; exact q2⟩
    · have e : spl T (m + 1) = spl T m := if_neg hb
      rw [e]
      refine ⟨fun i h => ⟨by have := (i1 i h).1; omega, (i1 i h).2⟩, i2, fun y hy hyb => ?_⟩
      by_cases q : y = m
      · subst q; exact absurd hyb hb
      · exact i3 y (by omega) hyb
section
variable {X : pm_X} {PR : pm_P} {s : QST} {Q : QPost}
theorem w_allOrders (hP : pm_np PR) {d : Nat} (hd : 1 ≤ d) {n : Nat} (e0 : qE s 164 0 = nI n) (hn1 : 1 ≤ n) (hn : n ≤ 7) (hk : Q (some (.int (nI (fct n)))) s) : qP X PR d 221 [.ref 163] s Q := by
  refine qP.of (L := [_, _, _]) (by omega) (hP _ rfl) ms_Model_allOrders rfl ?_
  show qW X PR (d - 1) (some .int) cd_Model_allOrders 0 _ _ _ _
  have loop : ∀ (c i : Nat), i + c = n → qW X PR (d - 1) (some .int) cd_Model_allOrders 1 [some (.ref (163)), some (.int (nI (fct i))), some (.int (nI (i + 1)))] [] s Q := by
    intro c
    induction c with
    | zero =>
      intro i hi
      have e : i = n := by omega
      subst e
      refine qW.blk rfl ?_
      refine qv_iload rfl ?_
      refine qv_aload rfl ?_
      refine qv_gr ly_163 ⟨rfl, rfl, rfl⟩ (by omega) ?_
      refine qv_iconst (v := 0) rfl ?_
      refine qv_ia (j := 0) ly_164 rfl (by omega) (by decide) (e0) ?_
      refine qv_icmp_gtNt rfl rfl (by omega) (by omega) (by omega) (tgt := 3) rfl ?_
      refine qW.blk rfl ?_
      refine qv_iload rfl ?_
      refine qv_iret (rfl) ?_
      exact hk
    | succ c ih =>
      intro i hi
      refine qW.blk rfl ?_
      refine qv_iload rfl ?_
      refine qv_aload rfl ?_
      refine qv_gr ly_163 ⟨rfl, rfl, rfl⟩ (by omega) ?_
      refine qv_iconst (v := 0) rfl ?_
      refine qv_ia (j := 0) ly_164 rfl (by omega) (by decide) (e0) ?_
      refine qv_icmp_gtNf rfl rfl (by omega) (by omega) (by omega) (nx := 2) rfl ?_
      refine qW.blk rfl ?_
      refine qv_iload rfl ?_
      refine qv_iload rfl ?_
      refine qv_imulN rfl rfl ?_
      refine qv_istore (L' := [_, _, _]) rfl ?_
      refine qv_iinc (L' := [_, _, _]) rfl (nI_succ _).symm rfl ?_
      refine qv_goto (tgt := 1) rfl ?_
      exact ih (i + 1) (by omega)
  refine qW.blk rfl ?_
  refine qv_iconst (v := 1) rfl ?_
  refine qv_istore (L' := [_, _, _]) rfl ?_
  refine qv_iconst (v := 2) rfl ?_
  refine qv_istore (L' := [_, _, _]) rfl ?_
  refine qv_nil (nx := 1) rfl ?_
  exact loop (n - 1) 1 (by omega)
theorem w_spread (hP : pm_np PR) {d : Nat} (hd : 1 ≤ d) {T B : Nat} (hB : qLY B (0, 7, [])) (hT : T < 128) (hk : ∀ s', qfr B B s s' → (∀ j, j < (spl T 7).length → qE s' B j = nI ((spl T 7).getD j 0)) → Q (some (.int (nI (spl T 7).length))) s') : qP X PR d 62 [.int (nI T), .ref B] s Q := by
  refine qP.of (L := [_, _, _, _]) (by omega) (hP _ rfl) ms_Orders_spread rfl ?_
  show qW X PR (d - 1) (some .int) cd_Orders_spread 0 _ _ _ _
  have loop : ∀ (c x : Nat) (s1 : QST), x + c = 7 → qfr B B s s1 → (∀ j, j < (spl T x).length → qE s1 B j = nI ((spl T x).getD j 0)) → qW X PR (d - 1) (some .int) cd_Orders_spread 1 [some (.int (nI T)), some (.ref (B)), some (.int (nI (spl T x).length)), some (.int (nI x))] [] s1 Q := by
    intro c
    induction c with
    | zero =>
      intro x s1 hx F1 h1
      have e : x = 7 := by omega
      subst e
      refine qW.blk rfl ?_
      refine qv_iload rfl ?_
      refine qv_iconst (v := 7) rfl ?_
      refine qv_icmp_geNt (q := 7) rfl rfl (by omega) (by omega) (by omega) (tgt := 5) rfl ?_
      refine qW.blk rfl ?_
      refine qv_iload rfl ?_
      refine qv_iret (rfl) ?_
      exact hk s1 F1 h1
    | succ c ih =>
      intro x s1 hx F1 h1
      have hle := spl_le (T := T) x
      by_cases hb : btn T x
      · have e : spl T (x + 1) = spl T x ++ [x] := if_pos hb
        have el : (spl T (x + 1)).length = (spl T x).length + 1 := by rw [e, List.length_append]; rfl
        have nx := ih (x + 1) (uE s1 B (spl T x).length (nI x)) (by omega) (F1.trans ((qfr.rf s1).uE ⟨Nat.le_refl _, Nat.le_refl _⟩)) (fun j hj => by
          rw [el] at hj
          rw [e, getD_snoc]
          by_cases q : j = (spl T x).length
          · rw [if_neg (by omega), if_pos q, q, qE_uEs]
          · rw [if_pos (by omega), qE_uEk q]; exact h1 j (by omega))
        rw [el] at nx
        refine qW.blk rfl ?_
        refine qv_iload rfl ?_
        refine qv_iconst (v := 7) rfl ?_
        refine qv_icmp_geNf (q := 7) rfl rfl (by omega) (by omega) (by omega) (nx := 2) rfl ?_
        refine qW.blk rfl ?_
        refine qv_iload rfl ?_
        refine qv_iload rfl ?_
        refine qv_ishr ?_
        refine qv_iconst (v := 1) rfl ?_
        refine qv_iand ?_
        refine qv_iconst (v := 1) rfl ?_
        refine qv_icmp_ne_f (fun q => q ((bit_is (by omega) (by omega)).mpr hb)) (nx := 3) rfl ?_
        refine qW.blk rfl ?_
        refine qv_aload rfl ?_
        refine qv_iload rfl ?_
        refine qv_iload rfl ?_
        refine qv_is hB rfl (by omega) (by decide) ?_
        refine qv_iinc (L' := [_, _, _, _]) rfl (nI_succ _).symm rfl ?_
        refine qv_nil (nx := 4) rfl ?_
        refine qW.blk rfl ?_
        refine qv_iinc (L' := [_, _, _, _]) rfl (nI_succ _).symm rfl ?_
        refine qv_goto (tgt := 1) rfl ?_
        exact nx
      · have e : spl T (x + 1) = spl T x := if_neg hb
        have nx := ih (x + 1) s1 (by omega) F1 (by rw [e]; exact h1)
        rw [e] at nx
        refine qW.blk rfl ?_
        refine qv_iload rfl ?_
        refine qv_iconst (v := 7) rfl ?_
        refine qv_icmp_geNf (q := 7) rfl rfl (by omega) (by omega) (by omega) (nx := 2) rfl ?_
        refine qW.blk rfl ?_
        refine qv_iload rfl ?_
        refine qv_iload rfl ?_
        refine qv_ishr ?_
        refine qv_iconst (v := 1) rfl ?_
        refine qv_iand ?_
        refine qv_iconst (v := 1) rfl ?_
        refine qv_icmp_ne_t (fun q => hb ((bit_is (by omega) (by omega)).mp q)) (tgt := 4) rfl ?_
        refine qW.blk rfl ?_
        refine qv_iinc (L' := [_, _, _, _]) rfl (nI_succ _).symm rfl ?_
        refine qv_goto (tgt := 1) rfl ?_
        exact nx
  refine qW.blk rfl ?_
  refine qv_iconst (v := 0) rfl ?_
  refine qv_istore (L' := [_, _, _, _]) rfl ?_
  refine qv_iconst (v := 0) rfl ?_
  refine qv_istore (L' := [_, _, _, _]) rfl ?_
  refine qv_nil (nx := 1) rfl ?_
  exact loop 7 0 s (by omega) (qfr.rf s) (fun j hj => absurd hj (Nat.not_lt_zero _))
end
