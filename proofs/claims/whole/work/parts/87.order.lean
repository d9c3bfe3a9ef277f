/-! order is alike -/
theorem refB_0 {h so : Nat} (hr : refB h so = 0) : h = 2 := by
  unfold refB refU at hr
  by_cases e : h = 2
  · exact e
  · rw [if_neg (fun z => e z.1)] at hr
    split at hr
    · exact absurd hr (by decide)
    · exact absurd hr (by decide)
theorem refB_neg {h so : Nat} (hr : ¬ refB h so = 0) : ¬ 0 ≤ refB h so := by
  have hneg : refB h so = -11 ∨ refB h so = -12 := by
    unfold refB refU at hr ⊢
    split
    · exact Or.inr rfl
    · split
      · exact Or.inl rfl
      · rename_i x1 x2
        rw [if_neg x1, if_neg x2] at hr
        split
        · rename_i x3; rw [if_pos x3] at hr; exact absurd rfl hr
        · exact Or.inr rfl
  rcases hneg with e | e <;> rw [e] <;> decide
theorem pig : ∀ (n i : Nat) (f : Nat → Nat), (∀ j, j < i → f j < n) → (∀ j k, j < k → k < i → f j ≠ f k) → i ≤ n := by
  intro n
  induction n with
  | zero =>
    intro i f h1 _
    rcases Nat.eq_zero_or_pos i with h | h
    · omega
    · exact absurd (h1 0 h) (Nat.not_lt_zero _)
  | succ n ih =>
    intro i f h1 h2
    by_cases h : ∃ j, j < i ∧ f j = n
    · obtain ⟨j0, hj0, hfj⟩ := h
      have := ih (i - 1) (fun j => if j < j0 then f j else f (j + 1)) (fun j hj => by
        show (if j < j0 then f j else f (j + 1)) < n
        split
        · have a := h1 j (by omega)
          have b := h2 j j0 (by omega) hj0
          omega
        · have a := h1 (j + 1) (by omega)
          have b := h2 j0 (j + 1) (by omega) (by omega)
          omega) (fun j k hjk hk => by
        show (if j < j0 then f j else f (j + 1)) ≠ (if k < j0 then f k else f (k + 1))
        split
        · split
          · exact h2 j k hjk (by omega)
          · exact h2 j (k + 1) (by omega) (by omega)
        · rw [if_neg (by omega)]
          exact h2 (j + 1) (k + 1) (by omega) (by omega))
      omega
    · have := ih i f (fun j hj => by
        have := h1 j hj
        have : f j ≠ n := fun e => h ⟨j, hj, e⟩
        omega) h2
      omega
/-- the first i cells are a row l of ENDS below n -/
def lrow (n : Nat) (f : Nat → Int32) (l : Nat → Nat) (i : Nat) : Prop := rowok n l i ∧ ∀ j, j < i → f j = nI (l j)
theorem lrow_or (n : Nat) (f : Nat → Int32) : ∀ z, (∃ l, lrow n f l z) ∨ ∃ i l, i < z ∧ lrow n f l i ∧ ((¬ ∃ k, k < n ∧ f i = nI k) ∨ ∃ j, j < i ∧ f i = nI (l j)) := by
  intro z
  induction z with
  | zero => exact Or.inl ⟨fun _ => 0, ⟨fun j h => absurd h (Nat.not_lt_zero _), fun i j _ h => absurd h (Nat.not_lt_zero _)⟩, fun j h => absurd h (Nat.not_lt_zero _)⟩
  | succ z ih =>
    rcases ih with ⟨l, h1, h2⟩ | ⟨i, l, h1, h2, h3⟩
    · rcases pl_of (f z) n with ⟨k, hk, e⟩ | hn
      · by_cases hj : ∃ j, j < z ∧ l j = k
        · obtain ⟨j, hj1, hj2⟩ := hj
          exact Or.inr ⟨z, l, by omega, ⟨h1, h2⟩, Or.inr ⟨j, hj1, by rw [hj2]; exact e⟩⟩
        · refine Or.inl ⟨fun j => if j = z then k else l j, ⟨fun j hj' => ?_, fun i j hij hj' => ?_⟩, fun j hj' => ?_⟩
          · show (if j = z then k else l j) < n
            split
            · exact hk
            · exact h1.1 j (by omega)
          · show (if i = z then k else l i) ≠ (if j = z then k else l j)
            rw [if_neg (by omega)]
            split
            · exact fun q => hj ⟨i, by omega, q⟩
            · exact h1.2 i j hij (by omega)
          · show f j = nI (if j = z then k else l j)
            split
            · rename_i q; rw [q]; exact e
            · exact h2 j (by omega)
      · exact Or.inr ⟨z, l, by omega, ⟨h1, h2⟩, Or.inl hn⟩
    · exact Or.inr ⟨i, l, by omega, h2, h3⟩
/-- whom one has met -/
def met (l : Nat → Nat) : Nat → Nat
  | 0 => 0
  | i + 1 => met l i ||| 2 ^ l i
theorem met_btn {n : Nat} {l : Nat → Nat} (hn : n ≤ 7) : ∀ i, (∀ j, j < i → l j < n) → met l i < 128 ∧ ∀ m, btn (met l i) m ↔ ∃ j, j < i ∧ l j = m := by
  intro i
  induction i with
  | zero => exact fun _ => ⟨Nat.zero_lt_succ _, fun m => ⟨fun h => absurd h (btn0 m), fun ⟨j, h, _⟩ => absurd h (Nat.not_lt_zero _)⟩⟩
  | succ i ih =>
    intro h
    obtain ⟨h1, h2⟩ := ih (fun j hj => h j (by omega))
    refine ⟨(or7 (by have := h i (by omega); omega) h1).2, fun m => ?_⟩
    show btn (met l i ||| 2 ^ l i) m ↔ _
    rw [btn_or, h2]
    constructor
    · rintro (⟨j, q1, q2⟩ | q)
      · exact ⟨j, by omega, q2⟩
      · exact ⟨i, by omega, q⟩
    · rintro ⟨j, q1, q2⟩
      by_cases e : j = i
      · subst e; exact Or.inr q2
      · exact Or.inl ⟨j, by omega, q2⟩
theorem rfr.sE {c k : Nat} {s t : QST} {v : Int32} (h : rfr s t) (hc : 173 ≤ c ∧ c ≤ 195) : rfr s (uE t c k v) := h.trans ⟨(qfr.rf t).uE (by omega), fun _ _ => qE_uEc (by omega), rfl, fun _ _ => rfl⟩
theorem rfr.sF {k : Nat} {s t : QST} {v : Int32} (h : rfr s t) (hk : ¬ (k = 3 ∨ k = 28 ∨ k = 29 ∨ k = 30 ∨ k = 31 ∨ k = 33 ∨ k = 35)) : rfr s (uF t 163 k v) := h.trans ⟨(qfr.rf t).uF (by omega), fun _ _ => rfl, rfl, fun j hj => qF_uFk (by omega)⟩
theorem rfr.sQ {lo hi : Nat} {s t u : QST} (h : rfr s t) (F : qfr lo hi t u) (hr : 173 ≤ lo ∧ hi ≤ 195) : rfr s u := h.trans ⟨F.mono (by omega) (by omega), fun c hc => F.E (by omega), (F.1 201 (by omega)).2.2.1, fun k hk => F.f (by omega)⟩
section
variable {X : pm_X} {PR : pm_P} {s : QST} {Q : QPost}
theorem w_lineUp (hP : pm_np PR) {d : Nat} (hd : 2 ≤ d) {n z B : Nat} {l : Nat → Nat} {f : Nat → Int32} (h0 : qF s 111 0 = nI n) (hn : n ≤ 7) (hB : qLY B (0, 120, [])) (hB2 : 123 ≤ B) (hf : ∀ j, j < 120 → qE s B j = f j) (hz1 : 2 ≤ z) (hz : z ≤ n) (hl : lrow n f l z) (hk : ∀ s', qfr 113 113 s s' → (∀ j, j < z → qE s' 113 j = nI (l j)) → Q (some (.int 1)) s') : qP X PR d 51 [.ref 111, .ref B, .int (nI z)] s Q := by
  refine qP.of (L := [_, _, _, _, _]) (by omega) (hP _ rfl) ms_Orders_lineUp rfl ?_
  show qW X PR (d - 1) (some .boolean) cd_Orders_lineUp 0 _ _ _ _
  have loop : ∀ (c i : Nat) (s1 : QST), i + c = z → qfr 113 113 s s1 → (∀ j, j < i → qE s1 113 j = nI (l j)) → qW X PR (d - 1) (some .boolean) cd_Orders_lineUp 4 [some (.ref (111)), some (.ref (B)), some (.int (nI z)), some (.int (nI (met l i))), some (.int (nI i))] [] s1 Q := by
    intro c
    induction c with
    | zero =>
      intro i s1 hi F1 h1
      have e : i = z := by omega
      subst e
      refine qW.blk rfl ?_
      refine qv_iload rfl ?_
      refine qv_iload rfl ?_
      refine qv_icmp_geNt rfl rfl (by omega) (by omega) (by omega) (tgt := 9) rfl ?_
      refine qW.blk rfl ?_
      refine qv_iconst (v := 1) rfl ?_
      refine qv_iret (by first | exact bI_ret | rfl) ?_
      exact hk s1 F1 h1
    | succ c ih =>
      intro i s1 hi F1 h1
      obtain ⟨m1, m2⟩ := met_btn (n := n) (l := l) hn i (fun j hj => hl.1.1 j (by omega))
      have hli := hl.1.1 i (by omega)
      have ef : qE s1 B i = nI (l i) := ((F1.e (by omega)).trans (hf i (by omega))).trans (hl.2 i (by omega))
      have nb : ¬ btn (met l i) (l i) := fun q => by
        obtain ⟨j, q1, q2⟩ := (m2 _).mp q
        exact hl.1.2 j i q1 (by omega) q2
      refine qW.blk rfl ?_
      refine qv_iload rfl ?_
      refine qv_iload rfl ?_
      refine qv_icmp_geNf rfl rfl (by omega) (by omega) (by omega) (nx := 5) rfl ?_
      refine qW.blk rfl ?_
      refine qv_aload rfl ?_
      refine qv_iload rfl ?_
      refine qv_ia hB rfl (by omega) (by decide) (ef) ?_
      refine qv_iconst (v := 0) rfl ?_
      refine qv_aload rfl ?_
      refine qv_gi ly_111 ⟨rfl, rfl, rfl⟩ ((F1.f (by omega)).trans h0) ?_
      refine qv_iconst (v := 1) rfl ?_
      refine qv_isub ?_
      refine qv_staticE sg_Desk_within rfl (r_Desk_within hP (by omega) (nI (l i)) 0 (nI n - 1) _) ?_
      refine qv_if_eq_f (bI_ne.mpr ((in_nI1 (by omega)).mpr ⟨l i, hli, rfl⟩)) (nx := 6) rfl ?_
      refine qW.blk rfl ?_
      refine qv_iload rfl ?_
      refine qv_aload rfl ?_
      refine qv_iload rfl ?_
      refine qv_ia hB rfl (by omega) (by decide) (ef) ?_
      refine qv_ishr ?_
      refine qv_iconst (v := 1) rfl ?_
      refine qv_iand ?_
      refine qv_iconst (v := 1) rfl ?_
      refine qv_icmp_ne_t (fun q => nb ((bit_is (by omega) (by omega)).mp q)) (tgt := 8) rfl ?_
      refine qW.blk rfl ?_
      refine qv_iload rfl ?_
      refine qv_iconst (v := 1) rfl ?_
      refine qv_aload rfl ?_
      refine qv_iload rfl ?_
      refine qv_ia hB rfl (by omega) (by decide) (ef) ?_
      refine qv_ishl ?_
      refine qv_ior ?_
      refine qv_top ((or7 (by omega) m1).1) ?_
      refine qv_istore (L' := [_, _, _, _, _]) rfl ?_
      refine qv_aload rfl ?_
      refine qv_gr ly_111 ⟨rfl, rfl, rfl⟩ (by omega) ?_
      refine qv_iload rfl ?_
      refine qv_aload rfl ?_
      refine qv_iload rfl ?_
      refine qv_ia hB rfl (by omega) (by decide) (ef) ?_
      refine qv_is ly_113 rfl (by omega) (by decide) ?_
      refine qv_iinc (L' := [_, _, _, _, _]) rfl (nI_succ _).symm rfl ?_
      refine qv_goto (tgt := 4) rfl ?_
      refine ih (i + 1) _ (by omega) (F1.trans ((qfr.rf s1).uE (by omega))) (fun j hj => ?_)
      by_cases e : j = i
      · subst e; rw [qE_uEs]
      · rw [qE_uEk e]; exact h1 j (by omega)
  refine qW.blk rfl ?_
  refine qv_iload rfl ?_
  refine qv_iconst (v := 2) rfl ?_
  refine qv_icmp_ltNf (q := 2) rfl rfl (by omega) (by omega) (by omega) (nx := 1) rfl ?_
  refine qW.blk rfl ?_
  refine qv_iload rfl ?_
  refine qv_aload rfl ?_
  refine qv_gi ly_111 ⟨rfl, rfl, rfl⟩ (h0) ?_
  refine qv_icmp_leNt rfl rfl (by omega) (by omega) (by omega) (tgt := 3) rfl ?_
  refine qW.blk rfl ?_
  refine qv_iconst (v := 0) rfl ?_
  refine qv_istore (L' := [_, _, _, _, _]) rfl ?_
  refine qv_iconst (v := 0) rfl ?_
  refine qv_istore (L' := [_, _, _, _, _]) rfl ?_
  refine qv_nil (nx := 4) rfl ?_
  exact loop z 0 s (by omega) (qfr.rf s) (fun j hj => absurd hj (Nat.not_lt_zero _))
theorem w_lineUp_n (hP : pm_np PR) {d : Nat} (hd : 2 ≤ d) {n z B : Nat} {f : Nat → Int32} (h0 : qF s 111 0 = nI n) (hn : n ≤ 7) (hB : qLY B (0, 120, [])) (hB2 : 123 ≤ B) (hf : ∀ j, j < 120 → qE s B j = f j) (hz : z ≤ 120) (hbad : z < 2 ∨ n < z ∨ ∃ i l, i < z ∧ lrow n f l i ∧ ((¬ ∃ k, k < n ∧ f i = nI k) ∨ ∃ j, j < i ∧ f i = nI (l j))) (hk : ∀ s', qfr 113 113 s s' → Q (some (.int 0)) s') : qP X PR d 51 [.ref 111, .ref B, .int (nI z)] s Q := by
  refine qP.of (L := [_, _, _, _, _]) (by omega) (hP _ rfl) ms_Orders_lineUp rfl ?_
  show qW X PR (d - 1) (some .boolean) cd_Orders_lineUp 0 _ _ _ _
  by_cases z2 : z < 2
  · refine qW.blk rfl ?_
    refine qv_iload rfl ?_
    refine qv_iconst (v := 2) rfl ?_
    refine qv_icmp_ltNt (q := 2) rfl rfl (by omega) (by omega) (by omega) (tgt := 2) rfl ?_
    refine qW.blk rfl ?_
    refine qv_iconst (v := 0) rfl ?_
    refine qv_iret (by first | exact bI_ret | rfl) ?_
    exact hk s (qfr.rf s)
  by_cases zn : n < z
  · refine qW.blk rfl ?_
    refine qv_iload rfl ?_
    refine qv_iconst (v := 2) rfl ?_
    refine qv_icmp_ltNf (q := 2) rfl rfl (by omega) (by omega) (by omega) (nx := 1) rfl ?_
    refine qW.blk rfl ?_
    refine qv_iload rfl ?_
    refine qv_aload rfl ?_
    refine qv_gi ly_111 ⟨rfl, rfl, rfl⟩ (h0) ?_
    refine qv_icmp_leNf rfl rfl (by omega) (by omega) (by omega) (nx := 2) rfl ?_
    refine qW.blk rfl ?_
    refine qv_iconst (v := 0) rfl ?_
    refine qv_iret (by first | exact bI_ret | rfl) ?_
    exact hk s (qfr.rf s)
  obtain ⟨i0, l, hi0, hl, hb⟩ : ∃ i l, i < z ∧ lrow n f l i ∧ ((¬ ∃ k, k < n ∧ f i = nI k) ∨ ∃ j, j < i ∧ f i = nI (l j)) := by
    rcases hbad with h | h | h
    · exact absurd h z2
    · exact absurd h zn
    · exact h
  have loop : ∀ (c i : Nat) (s1 : QST), i + c = i0 → qfr 113 113 s s1 → qW X PR (d - 1) (some .boolean) cd_Orders_lineUp 4 [some (.ref (111)), some (.ref (B)), some (.int (nI z)), some (.int (nI (met l i))), some (.int (nI i))] [] s1 Q := by
    intro c
    induction c with
    | zero =>
      intro i s1 hi F1
      have e : i = i0 := by omega
      subst e
      obtain ⟨m1, m2⟩ := met_btn (n := n) (l := l) hn i hl.1.1
      have ef : qE s1 B i = f i := (F1.e (by omega)).trans (hf i (by omega))
      rcases hb with hb | ⟨j, hj, hb⟩
      · refine qW.blk rfl ?_
        refine qv_iload rfl ?_
        refine qv_iload rfl ?_
        refine qv_icmp_geNf rfl rfl (by omega) (by omega) (by omega) (nx := 5) rfl ?_
        refine qW.blk rfl ?_
        refine qv_aload rfl ?_
        refine qv_iload rfl ?_
        refine qv_ia hB rfl (by omega) (by decide) (ef) ?_
        refine qv_iconst (v := 0) rfl ?_
        refine qv_aload rfl ?_
        refine qv_gi ly_111 ⟨rfl, rfl, rfl⟩ ((F1.f (by omega)).trans h0) ?_
        refine qv_iconst (v := 1) rfl ?_
        refine qv_isub ?_
        refine qv_staticE sg_Desk_within rfl (r_Desk_within hP (by omega) (f i) 0 (nI n - 1) _) ?_
        refine qv_if_eq_t (bI_f (fun q => hb ((in_nI1 (by omega)).mp q))) (tgt := 7) rfl ?_
        refine qW.blk rfl ?_
        refine qv_iconst (v := 0) rfl ?_
        refine qv_iret (by first | exact bI_ret | rfl) ?_
        exact hk s1 F1
      · have hlj := hl.1.1 j hj
        rw [hb] at ef
        refine qW.blk rfl ?_
        refine qv_iload rfl ?_
        refine qv_iload rfl ?_
        refine qv_icmp_geNf rfl rfl (by omega) (by omega) (by omega) (nx := 5) rfl ?_
        refine qW.blk rfl ?_
        refine qv_aload rfl ?_
        refine qv_iload rfl ?_
        refine qv_ia hB rfl (by omega) (by decide) (ef) ?_
        refine qv_iconst (v := 0) rfl ?_
        refine qv_aload rfl ?_
        refine qv_gi ly_111 ⟨rfl, rfl, rfl⟩ ((F1.f (by omega)).trans h0) ?_
        refine qv_iconst (v := 1) rfl ?_
        refine qv_isub ?_
        refine qv_staticE sg_Desk_within rfl (r_Desk_within hP (by omega) (nI (l j)) 0 (nI n - 1) _) ?_
        refine qv_if_eq_f (bI_ne.mpr ((in_nI1 (by omega)).mpr ⟨l j, hlj, rfl⟩)) (nx := 6) rfl ?_
        refine qW.blk rfl ?_
        refine qv_iload rfl ?_
        refine qv_aload rfl ?_
        refine qv_iload rfl ?_
        refine qv_ia hB rfl (by omega) (by decide) (ef) ?_
        refine qv_ishr ?_
        refine qv_iconst (v := 1) rfl ?_
        refine qv_iand ?_
        refine qv_iconst (v := 1) rfl ?_
        refine qv_icmp_ne_f (fun q => q ((bit_is (by omega) (by omega)).mpr ((m2 _).mpr ⟨j, hj, rfl⟩))) (nx := 7) rfl ?_
        refine qW.blk rfl ?_
        refine qv_iconst (v := 0) rfl ?_
        refine qv_iret (by first | exact bI_ret | rfl) ?_
        exact hk s1 F1
    | succ c ih =>
      intro i s1 hi F1
      obtain ⟨m1, m2⟩ := met_btn (n := n) (l := l) hn i (fun j hj => hl.1.1 j (by omega))
      have hli := hl.1.1 i (by omega)
      have ef : qE s1 B i = nI (l i) := ((F1.e (by omega)).trans (hf i (by omega))).trans (hl.2 i (by omega))
      have nb : ¬ btn (met l i) (l i) := fun q => by
        obtain ⟨j, q1, q2⟩ := (m2 _).mp q
        exact hl.1.2 j i q1 (by omega) q2
      refine qW.blk rfl ?_
      refine qv_iload rfl ?_
      refine qv_iload rfl ?_
      refine qv_icmp_geNf rfl rfl (by omega) (by omega) (by omega) (nx := 5) rfl ?_
      refine qW.blk rfl ?_
      refine qv_aload rfl ?_
      refine qv_iload rfl ?_
      refine qv_ia hB rfl (by omega) (by decide) (ef) ?_
      refine qv_iconst (v := 0) rfl ?_
      refine qv_aload rfl ?_
      refine qv_gi ly_111 ⟨rfl, rfl, rfl⟩ ((F1.f (by omega)).trans h0) ?_
      refine qv_iconst (v := 1) rfl ?_
      refine qv_isub ?_
      refine qv_staticE sg_Desk_within rfl (r_Desk_within hP (by omega) (nI (l i)) 0 (nI n - 1) _) ?_
      refine qv_if_eq_f (bI_ne.mpr ((in_nI1 (by omega)).mpr ⟨l i, hli, rfl⟩)) (nx := 6) rfl ?_
      refine qW.blk rfl ?_
      refine qv_iload rfl ?_
      refine qv_aload rfl ?_
      refine qv_iload rfl ?_
      refine qv_ia hB rfl (by omega) (by decide) (ef) ?_
      refine qv_ishr ?_
      refine qv_iconst (v := 1) rfl ?_
      refine qv_iand ?_
      refine qv_iconst (v := 1) rfl ?_
      refine qv_icmp_ne_t (fun q => nb ((bit_is (by omega) (by omega)).mp q)) (tgt := 8) rfl ?_
      refine qW.blk rfl ?_
      refine qv_iload rfl ?_
      refine qv_iconst (v := 1) rfl ?_
      refine qv_aload rfl ?_
      refine qv_iload rfl ?_
      refine qv_ia hB rfl (by omega) (by decide) (ef) ?_
      refine qv_ishl ?_
      refine qv_ior ?_
      refine qv_top ((or7 (by omega) m1).1) ?_
      refine qv_istore (L' := [_, _, _, _, _]) rfl ?_
      refine qv_aload rfl ?_
      refine qv_gr ly_111 ⟨rfl, rfl, rfl⟩ (by omega) ?_
      refine qv_iload rfl ?_
      refine qv_aload rfl ?_
      refine qv_iload rfl ?_
      refine qv_ia hB rfl (by omega) (by decide) (ef) ?_
      refine qv_is ly_113 rfl (by omega) (by decide) ?_
      refine qv_iinc (L' := [_, _, _, _, _]) rfl (nI_succ _).symm rfl ?_
      refine qv_goto (tgt := 4) rfl ?_
      exact ih (i + 1) _ (by omega) (F1.trans ((qfr.rf s1).uE (by omega)))
  refine qW.blk rfl ?_
  refine qv_iload rfl ?_
  refine qv_iconst (v := 2) rfl ?_
  refine qv_icmp_ltNf (q := 2) rfl rfl (by omega) (by omega) (by omega) (nx := 1) rfl ?_
  refine qW.blk rfl ?_
  refine qv_iload rfl ?_
  refine qv_aload rfl ?_
  refine qv_gi ly_111 ⟨rfl, rfl, rfl⟩ (h0) ?_
  refine qv_icmp_leNt rfl rfl (by omega) (by omega) (by omega) (tgt := 3) rfl ?_
  refine qW.blk rfl ?_
  refine qv_iconst (v := 0) rfl ?_
  refine qv_istore (L' := [_, _, _, _, _]) rfl ?_
  refine qv_iconst (v := 0) rfl ?_
  refine qv_istore (L' := [_, _, _, _, _]) rfl ?_
  refine qv_nil (nx := 4) rfl ?_
  exact loop i0 0 s (by omega) (qfr.rf s)
end
