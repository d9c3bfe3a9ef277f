/-! the doubtful ones: who they are, what set of doubts a case is, its weight -/
theorem or_N {a b : Nat} (ha : a < 2 ^ 31) (hb : b < 2 ^ 31) : nI a ||| nI b = nI (a ||| b) := by
  apply Int32.toBitVec_inj.mp
  apply BitVec.eq_of_toNat_eq
  rw [Int32.toBitVec_or, BitVec.toNat_or, pk_tn (by omega), pk_tn (by omega), pk_tn (Nat.lt_trans (Nat.or_lt_two_pow ha hb) (by decide))]
theorem shl9 : ∀ u, u < 9 → (1 <<< (nI u &&& 31) : Int32) = nI (2 ^ u) ∧ 2 ^ u < 512 := by decide +kernel
theorem or9 (u : Nat) (hu : u < 9) (x : Nat) (hx : x < 512) : nI x ||| (1 <<< (nI u &&& 31)) = nI (x ||| 2 ^ u) ∧ x ||| 2 ^ u < 512 := by
  obtain ⟨h1, h2⟩ := shl9 u hu
  rw [h1]
  exact ⟨or_N (by omega) (by omega), Nat.or_lt_two_pow (n := 9) hx h2⟩
theorem btn_tb {x m : Nat} : btn x m ↔ x.testBit m = true := by
  rw [Nat.testBit_eq_decide_div_mod_eq]; exact (decide_eq_true_iff).symm
theorem btn_or {x u m : Nat} : btn (x ||| 2 ^ u) m ↔ (btn x m ∨ u = m) := by
  rw [btn_tb, btn_tb, Nat.testBit_or, Nat.testBit_two_pow, Bool.or_eq_true, decide_eq_true_iff]
/-- the unsure below m, six at most -/
def uns (C : Nat → Nat) : Nat → List Nat
  | 0 => []
  | m + 1 => if (uns C m).length < 6 ∧ 0 < C (50 + m) then uns C m ++ [m] else uns C m
theorem uns_le {C : Nat → Nat} : ∀ m, (uns C m).length ≤ 6 := by
  intro m
  induction m with
  | zero => exact Nat.zero_le _
  | succ m ih =>
    unfold uns
    split
    · rename_i h; rw [List.length_append]; show (uns C m).length + 1 ≤ 6; omega
    · exact ih
theorem uns_full {C : Nat → Nat} {m : Nat} (h : (uns C m).length = 6) : ∀ k, uns C (m + k) = uns C m := by
  intro k
  induction k with
  | zero => rfl
  | succ k ih => show (if (uns C (m + k)).length < 6 ∧ 0 < C (50 + (m + k)) then uns C (m + k) ++ [m + k] else uns C (m + k)) = _; rw [ih, if_neg (by omega)]
theorem getD_snoc {l : List Nat} {m i : Nat} : (l ++ [m]).getD i 0 = if i < l.length then l.getD i 0 else if i = l.length then m else 0 := by
  rw [List.getD_eq_getElem?_getD, List.getD_eq_getElem?_getD]
  by_cases h : i < l.length
  · rw [if_pos h, List.getElem?_append_left h]
  · rw [if_neg h, List.getElem?_append_right (by omega)]
    by_cases e : i = l.length
    · rw [if_pos e, e, Nat.sub_self]; rfl
    · rw [if_neg e]
      obtain ⟨j, hj⟩ : ∃ j, i - l.length = j + 1 := ⟨i - l.length - 1, by omega⟩
      rw [hj]; rfl
theorem uns_lt {C : Nat → Nat} : ∀ m, (∀ i, i < (uns C m).length → (uns C m).getD i 0 < m) ∧ ∀ i j, i < j → j < (uns C m).length → (uns C m).getD i 0 < (uns C m).getD j 0 := by
  intro m
  induction m with
  | zero => exact ⟨fun i h => absurd h (Nat.not_lt_zero _), fun i j _ h => absurd h (Nat.not_lt_zero _)⟩
  | succ m ih =>
    unfold uns
    split
    · have hl : (uns C m ++ [m]).length = (uns C m).length + 1 := by rw [List.length_append]; rfl
      refine ⟨fun i h => ?_, fun i j hij h => ?_⟩
      · rw [hl] at h
        rw [getD_snoc]
        by_cases e : i < (uns C m).length
        · rw [if_pos e]; have := ih.1 i e; omega
        · rw [if_neg e, if_pos (by omega)]; omega
      · rw [hl] at h
        rw [getD_snoc, getD_snoc, if_pos (by omega)]
        by_cases e : j < (uns C m).length
        · rw [if_pos e]; exact ih.2 i j hij e
        · rw [if_neg e, if_pos (by omega)]; exact ih.1 i (by omega)
    · exact ⟨fun i h => by have := ih.1 i h; omega, ih.2⟩
/-- the members of a case -/
def dset (U : Nat → Nat) (b : Nat) : Nat → Nat
  | 0 => 0
  | j + 1 => if btn b j then dset U b j ||| 2 ^ U j else dset U b j
theorem dset_btn {U : Nat → Nat} {b z : Nat} (hU : ∀ i, i < z → U i < 9) : ∀ j, j ≤ z → dset U b j < 512 ∧ ∀ m, btn (dset U b j) m ↔ ∃ i, i < j ∧ U i = m ∧ btn b i := by
  intro j
  induction j with
  | zero => exact fun _ => ⟨Nat.zero_lt_succ _, fun m => ⟨fun h => absurd h (btn0 m), fun ⟨i, h, _⟩ => by omega⟩⟩
  | succ j ih =>
    intro hj
    obtain ⟨h1, h2⟩ := ih (by omega)
    unfold dset
    by_cases hb : btn b j
    · rw [if_pos hb]
      refine ⟨(or9 _ (hU j (by omega)) _ h1).2, fun m => ?_⟩
      rw [btn_or, h2]
      constructor
      · rintro (⟨i, g1, g2, g3⟩ | g)
        · exact ⟨i, by omega, g2, g3⟩
        · exact ⟨j, by omega, g, hb⟩
      · rintro ⟨i, g1, g2, g3⟩
        by_cases e : i = j
        · subst e; exact Or.inr g2
        · exact Or.inl ⟨i, by omega, g2, g3⟩
    · rw [if_neg hb]
      refine ⟨h1, fun m => ?_⟩
      rw [h2]
      constructor
      · rintro ⟨i, g1, g2, g3⟩; exact ⟨i, by omega, g2, g3⟩
      · rintro ⟨i, g1, g2, g3⟩
        by_cases e : i = j
        · subst e; exact absurd g3 hb
        · exact ⟨i, by omega, g2, g3⟩
/-- the weight of a case -/
def wt1 (C : Nat → Nat) (u b j : Nat) : Int64 := if btn b j then (nI (C (50 + u))).toInt64 else ((100 : Int32) - nI (C (50 + u))).toInt64
def wt (C : Nat → Nat) (U : Nat → Nat) (b : Nat) : Nat → Int64
  | 0 => 1
  | j + 1 => wt C U b j * wt1 C (U j) b j
theorem l100 : ∀ a, a < 101 → (nI a).toInt64 = lN a ∧ ((100 : Int32) - nI a).toInt64 = lN (100 - a) := by decide +kernel
theorem wt_lN {C : Nat → Nat} {U : Nat → Nat} {b z : Nat} (h : ∀ i, i < z → C (50 + U i) ≤ 100) : ∀ j, j ≤ z → ∃ n, n ≤ 100 ^ j ∧ wt C U b j = lN n := by
  intro j
  induction j with
  | zero => exact fun _ => ⟨1, Nat.le_refl _, rfl⟩
  | succ j ih =>
    intro hj
    obtain ⟨n, h1, h2⟩ := ih (by omega)
    have hc := h j (by omega)
    have h3 := l100 _ (show C (50 + U j) < 101 by omega)
    unfold wt wt1
    by_cases hb : btn b j
    · rw [if_pos hb, h3.1, h2, lN_mul]
      exact ⟨_, Nat.pow_succ 100 j ▸ Nat.mul_le_mul h1 hc, rfl⟩
    · rw [if_neg hb, h3.2, h2, lN_mul]
      exact ⟨_, Nat.pow_succ 100 j ▸ Nat.mul_le_mul h1 (by omega), rfl⟩
theorem wt_0 {C : Nat → Nat} {U : Nat → Nat} {b z : Nat} (h : ∀ i, i < z → C (50 + U i) ≤ 100) (hz : z ≤ 6) (h0 : lg_cmp (wt C U b z) 0 ≤ 0) : wt C U b z = 0 := by
  obtain ⟨n, h1, h2⟩ := wt_lN (b := b) h z (Nat.le_refl _)
  have h3 : 100 ^ z ≤ 100 ^ 6 := Nat.pow_le_pow_right (by omega) hz
  have h4 : (100 : Nat) ^ 6 = 1000000000000 := by decide
  have h5 : (2 : Nat) ^ 63 = 9223372036854775808 := by decide
  rw [lg_cmp_le, h2] at h0
  rw [h2]
  have := (pk_lLE (a := n) (b := 0) (by omega) (by omega)).mp h0
  have e : n = 0 := by omega
  subst e
  rfl
theorem shl6 : ∀ z, z < 7 → (1 <<< (nI z &&& 31) : Int32) = nI (2 ^ z) ∧ 2 ^ z ≤ 64 := by decide +kernel
theorem wDbt_ok {W : VW} {C : Nat → Nat} {p x : Nat} (h : vok W p) : vok (wDbt W C x) p := h
theorem rview_dbt {s : QST} {C : Nat → Nat} (h' : rC s 164 C) (hC : CB C) (hn : rne s 30) {x : Nat} (hx : x < 512) (i30 : qF s 163 30 = nI x) : rview s (C 2) (wDbt (cvw C) C x) := by
  obtain ⟨n1, n2, n3, n4, n5, n6⟩ := hn
  have hM := hC.2.2.2.1
  have i33 : qF s 163 33 = nI 0 := n5 (by decide)
  have i29 : qF s 163 29 = nI 0 := n2 (by decide)
  have i31 := n4 (by decide)
  have i35 := n6 (by decide)
  have ek : ∀ m, m < C 2 → v_kin (qF s 163) (fun j => qE s (164 + j)) m = nI (C (10 + m)) := fun m hm => by
    rw [v_kin_0 h' (n1 (by decide)) i33 i29 (by decide) (by decide) (by omega), if_neg (btn0 m), if_neg (btn0 m)]
  refine ⟨rvw_of h' hC i35 rfl rfl (fun m hm => ek m hm) (fun m hm => rfl) (fun m hm => ?_) (fun m hm => rfl) (fun m hm => ?_) (fun m e hm he => ?_), v_ok_C h' hM i35, fun m hm hk2 => ?_⟩
  · rw [v_par_0 h' i33 (by decide) (by omega), if_neg (btn0 m)]; rfl
  · rw [v_end_0 h' i33 (by decide) (by omega), if_neg (btn0 m)]; rfl
  · rw [v_wis_0 h' i35 i30 hx (by omega) he, i31, if_neg (nI_ne_m1 (by omega))]; rfl
  · rw [ek m hm] at hk2
    exact ⟨C (30 + m), hC.some6 hm hk2, h' _ (by omega)⟩
/-- what is known of the doubtful ones -/
def unsB (C : Nat → Nat) (U : Nat → Nat) (z : Nat) : Prop := z ≤ 6 ∧ (∀ i, i < z → U i < C 2) ∧ (∀ i j, i < j → j < z → U i < U j)
section
variable {X : pm_X} {PR : pm_P} {s : QST} {Q : QPost}
theorem w_seatDoubtful (hP : pm_np PR) {d : Nat} (hd : 4 ≤ d) {C : Nat → Nat} (hc : cC s 9 C) (hC : CB C) (hk : ∀ s' p, qfr 74 116 s s' → hm s' (cvw C) p → vok (cvw C) p → (∀ i, i < (uns C (C 2)).length → qE s' 116 i = nI ((uns C (C 2)).getD i 0)) → Q (some (.int (nI (uns C (C 2)).length))) s') : qP X PR d 78 [.ref 115] s Q := by
  have hM := hC.2.2.2.1
  refine qP.of (L := [_, _, _]) (by omega) (hP _ rfl) ms_Plots_seatDoubtful rfl ?_
  show qW X PR (d - 1) (some .int) cd_Plots_seatDoubtful 0 _ _ _ _
  have done : ∀ (s1 : QST) (p m : Nat), m ≤ C 2 → (m = C 2 ∨ (uns C m).length = 6) → qfr 74 116 s s1 → hm s1 (cvw C) p → vok (cvw C) p → (∀ i, i < (uns C m).length → qE s1 116 i = nI ((uns C m).getD i 0)) → Q (some (.int (nI (uns C m).length))) s1 := by
    intro s1 p m hm h F1 m1 v1 h1
    have e : uns C (C 2) = uns C m := by
      rcases h with h | h
      · rw [h]
      · obtain ⟨k, hk⟩ : ∃ k, C 2 = m + k := ⟨C 2 - m, by omega⟩
        rw [hk]; exact uns_full h k
    have := hk s1 p F1 m1 v1
    rw [e] at this
    exact this h1
  have loop : ∀ (c m : Nat) (p : Nat) (s1 : QST), m + c = C 2 → qfr 74 116 s s1 → hm s1 (cvw C) p → vok (cvw C) p → (∀ i, i < (uns C m).length → qE s1 116 i = nI ((uns C m).getD i 0)) → qW X PR (d - 1) (some .int) cd_Plots_seatDoubtful 1 [some (.ref (115)), some (.int (nI (uns C m).length)), some (.int (nI m))] [] s1 Q := by
    intro c
    induction c with
    | zero =>
      intro m p s1 hm F1 m1 v1 h1
      have e : m = C 2 := by omega
      subst e
      refine qW.blk rfl ?_
      refine qv_iload rfl ?_
      refine qv_aload rfl ?_
      refine qv_gr ly_115 ⟨rfl, rfl, rfl⟩ (by omega) ?_
      refine qv_gi ly_9 ⟨rfl, rfl, rfl⟩ ((F1.f (by omega)).trans hc.2.2.1) ?_
      refine qv_icmp_geNt rfl rfl (by omega) (by omega) (by omega) (tgt := 6) rfl ?_
      refine qW.blk rfl ?_
      refine qv_iload rfl ?_
      refine qv_iret (rfl) ?_
      exact done s1 p _ (Nat.le_refl _) (Or.inl rfl) F1 m1 v1 h1
    | succ c ih =>
      intro m p s1 hm F1 m1 v1 h1
      have h6 := uns_le (C := C) m
      by_cases hl : (uns C m).length < 6
      · have cm := hc.2.2.2.2 m (by omega)
        have hc5 := (hC.2.2.2.2.2 m (by omega)).2.2.2.2.2.1
        have r5 : qF s1 (12 + 3 * m) 5 = nI (C (50 + m)) := (F1.f (by omega)).trans cm.2.2.2.2.2.1
        by_cases hp : 0 < C (50 + m)
        · have e : uns C (m + 1) = uns C m ++ [m] := by show (if _ then _ else _) = _; rw [if_pos ⟨hl, hp⟩]
          have el : (uns C (m + 1)).length = (uns C m).length + 1 := by rw [e, List.length_append]; rfl
          have nx := ih (m + 1) p (uE s1 116 (uns C m).length (nI m)) (by omega) (F1.trans ((qfr.rf s1).uE (by omega))) (m1.fr (lo := 116) (hi := 116) ((qfr.rf s1).uE (by omega)) (by omega) v1.1) v1 (fun i hi => by
            rw [el] at hi
            rw [e, getD_snoc]
            by_cases ei : i = (uns C m).length
            · rw [if_neg (by omega), if_pos ei, ei, qE_uEs]
            · rw [if_pos (by omega), qE_uEk ei]; exact h1 i (by omega))
          rw [el] at nx
          refine qW.blk rfl ?_
          refine qv_iload rfl ?_
          refine qv_aload rfl ?_
          refine qv_gr ly_115 ⟨rfl, rfl, rfl⟩ (by omega) ?_
          refine qv_gi ly_9 ⟨rfl, rfl, rfl⟩ ((F1.f (by omega)).trans hc.2.2.1) ?_
          refine qv_icmp_geNf rfl rfl (by omega) (by omega) (by omega) (nx := 2) rfl ?_
          refine qW.blk rfl ?_
          refine qv_iload rfl ?_
          refine qv_iconst (v := 6) rfl ?_
          refine qv_icmp_geNf (q := 6) rfl rfl (by omega) (by omega) (by omega) (nx := 3) rfl ?_
          refine qW.blk rfl ?_
          refine qv_aload rfl ?_
          refine qv_gr ly_115 ⟨rfl, rfl, rfl⟩ (by omega) ?_
          refine qv_gr ly_9 ⟨rfl, rfl, rfl⟩ (by omega) ?_
          refine qv_iload rfl ?_
          refine qv_aa (j := m) (r := 12 + 3 * m) ly_10 rfl (show _ < 9 by omega) (by decide) rfl ?_
          refine qv_gi (mb_now (m := m) (by omega)).1 ⟨rfl, rfl, rfl⟩ (r5) ?_
          refine qv_if_le_f (nI_nle hp (by omega)) (nx := 4) rfl ?_
          refine qW.blk rfl ?_
          refine qv_aload rfl ?_
          refine qv_gr ly_115 ⟨rfl, rfl, rfl⟩ (by omega) ?_
          refine qv_iload rfl ?_
          refine qv_iload rfl ?_
          refine qv_is ly_116 rfl (by omega) (by decide) ?_
          refine qv_iinc (L' := [_, _, _]) rfl (nI_succ _).symm rfl ?_
          refine qv_nil (nx := 5) rfl ?_
          refine qW.blk rfl ?_
          refine qv_iinc (L' := [_, _, _]) rfl (nI_succ _).symm rfl ?_
          refine qv_goto (tgt := 1) rfl ?_
          exact nx
        · have e : uns C (m + 1) = uns C m := by show (if _ then _ else _) = _; rw [if_neg (fun z => hp z.2)]
          have e0 : C (50 + m) = 0 := by omega
          have nx := ih (m + 1) p s1 (by omega) F1 m1 v1 (by rw [e]; exact h1)
          rw [e] at nx
          rw [e0] at r5
          refine qW.blk rfl ?_
          refine qv_iload rfl ?_
          refine qv_aload rfl ?_
          refine qv_gr ly_115 ⟨rfl, rfl, rfl⟩ (by omega) ?_
          refine qv_gi ly_9 ⟨rfl, rfl, rfl⟩ ((F1.f (by omega)).trans hc.2.2.1) ?_
          refine qv_icmp_geNf rfl rfl (by omega) (by omega) (by omega) (nx := 2) rfl ?_
          refine qW.blk rfl ?_
          refine qv_iload rfl ?_
          refine qv_iconst (v := 6) rfl ?_
          refine qv_icmp_geNf (q := 6) rfl rfl (by omega) (by omega) (by omega) (nx := 3) rfl ?_
          refine qW.blk rfl ?_
          refine qv_aload rfl ?_
          refine qv_gr ly_115 ⟨rfl, rfl, rfl⟩ (by omega) ?_
          refine qv_gr ly_9 ⟨rfl, rfl, rfl⟩ (by omega) ?_
          refine qv_iload rfl ?_
          refine qv_aa (j := m) (r := 12 + 3 * m) ly_10 rfl (show _ < 9 by omega) (by decide) rfl ?_
          refine qv_gi (mb_now (m := m) (by omega)).1 ⟨rfl, rfl, rfl⟩ (r5) ?_
          refine qv_if_le_t (by decide) (tgt := 5) rfl ?_
          refine qW.blk rfl ?_
          refine qv_iinc (L' := [_, _, _]) rfl (nI_succ _).symm rfl ?_
          refine qv_goto (tgt := 1) rfl ?_
          exact nx
      · have e6 : (uns C m).length = 6 := by omega
        refine qW.blk rfl ?_
        refine qv_iload rfl ?_
        refine qv_aload rfl ?_
        refine qv_gr ly_115 ⟨rfl, rfl, rfl⟩ (by omega) ?_
        refine qv_gi ly_9 ⟨rfl, rfl, rfl⟩ ((F1.f (by omega)).trans hc.2.2.1) ?_
        refine qv_icmp_geNf rfl rfl (by omega) (by omega) (by omega) (nx := 2) rfl ?_
        refine qW.blk rfl ?_
        refine qv_iload rfl ?_
        refine qv_iconst (v := 6) rfl ?_
        refine qv_icmp_geNt (q := 6) rfl rfl (by omega) (by omega) (by omega) (tgt := 6) rfl ?_
        refine qW.blk rfl ?_
        refine qv_iload rfl ?_
        refine qv_iret (rfl) ?_
        exact done s1 p m (by omega) (Or.inr e6) F1 m1 v1 h1
  refine qW.blk rfl ?_
  refine qv_aload rfl ?_
  refine qv_gr ly_115 ⟨rfl, rfl, rfl⟩ (by omega) ?_
  refine qv_aload rfl ?_
  refine qv_gr ly_115 ⟨rfl, rfl, rfl⟩ (by omega) ?_
  refine qv_virt (ly_74.rcv _) sg_Hall_seat rfl rfl (w_Hall_seat hP (by omega) hc hC (fun s1 p F1 m1 v1 => ?_)) 
  refine qv_iconst (v := 0) rfl ?_
  refine qv_istore (L' := [_, _, _]) rfl ?_
  refine qv_iconst (v := 0) rfl ?_
  refine qv_istore (L' := [_, _, _]) rfl ?_
  refine qv_nil (nx := 1) rfl ?_
  exact loop (C 2) 0 p s1 (by omega) (F1.mono (by omega) (by omega)) m1 v1 (fun i hi => absurd hi (Nat.not_lt_zero _))
theorem w_suppose (hP : pm_np PR) {d : Nat} (hd : 3 ≤ d) {C : Nat → Nat} (hc : cC s 9 C) (hC : CB C) {U : Nat → Nat} {z b x0 p : Nat} (hu : unsB C U z) (hU : ∀ i, i < z → qE s 116 i = nI (U i)) (hb : b < 64) (hx0 : ∀ m, btn x0 m → ∃ i, i < z ∧ U i = m) (hh : hm s (wDbt (cvw C) C x0) p) (hk : ∀ s', qfr 85 111 s s' → (∀ c, (∀ m, m < C 2 → c ≠ 84 + 3 * m + 1) → qE s' c = qE s c ∧ qF s' c = qF s c) → hm s' (wDbt (cvw C) C (dset U b z)) p → Q (some (.long (wt C U b z))) s') : qP X PR d 79 [.ref 115, .int (nI b), .int (nI z)] s Q := by
  have hM := hC.2.2.2.1
  obtain ⟨hz6, hU1, hU2⟩ := hu
  refine qP.of (L := [_, _, _, _, _, _, _, _]) (by omega) (hP _ rfl) ms_Plots_suppose rfl ?_
  show qW X PR (d - 1) (some .long) cd_Plots_suppose 0 _ _ _ _
  have loop : ∀ (c j : Nat) (s1 : QST) (L6 L7 : Option Value), j + c = z → qfr 85 111 s s1 → (∀ c, (∀ m, m < C 2 → c ≠ 84 + 3 * m + 1) → qE s1 c = qE s c ∧ qF s1 c = qF s c) → (∀ i, i < j → ∀ e, e < 7 → qE s1 (84 + 3 * U i + 1) e = if btn b i then nI (C (130 + 7 * U i + e)) else nI (C (60 + 7 * U i + e))) → (∀ m, (∀ i, i < j → U i ≠ m) → ∀ e, qE s1 (84 + 3 * m + 1) e = qE s (84 + 3 * m + 1) e) → qW X PR (d - 1) (some .long) cd_Plots_suppose 1 [some (.ref (115)), some (.int (nI b)), some (.int (nI z)), some (.long (wt C U b j)), none, some (.int (nI j)), L6, L7] [] s1 Q := by
    intro c
    induction c with
    | zero =>
      intro j s1 L6 L7 hj F1 hf g1 g2
      have e : j = z := by omega
      subst e
      refine qW.blk rfl ?_
      refine qv_iload rfl ?_
      refine qv_iload rfl ?_
      refine qv_icmp_geNt rfl rfl (by omega) (by omega) (by omega) (tgt := 12) rfl ?_
      refine qW.blk rfl ?_
      refine qv_lload rfl ?_
      refine qv_lret rfl ?_
      obtain ⟨q1, q2, q3, q4⟩ := hh
      obtain ⟨-, d2⟩ := dset_btn (U := U) (b := b) (z := j) (fun i hi => by have := hU1 i hi; omega) j (Nat.le_refl _)
      have f74 := (hf 74 (fun m hm => by omega)).2
      refine hk s1 F1 hf ⟨by rw [f74]; exact q1, by rw [f74]; exact q2, by rw [f74]; exact q3, fun m hm => ?_⟩
      have hm' : m < C 2 := hm
      obtain ⟨a1, a2, a3, a4, a5⟩ := q4 m hm
      have fm := (hf (84 + 3 * m) (fun m' hm' => by omega)).2
      refine ⟨by rw [fm]; exact a1, by rw [fm]; exact a2, by rw [fm]; exact a3, by rw [fm]; exact a4, fun e he => ?_⟩
      show _ = (if btn (dset U b j) m then nI (C (130 + 7 * m + e)) else nI (C (60 + 7 * m + e)))
      by_cases hx : ∃ i, i < j ∧ U i = m
      · obtain ⟨i, hi, rfl⟩ := hx
        rw [g1 i hi e he]
        by_cases hbi : btn b i
        · rw [if_pos hbi, if_pos ((d2 _).mpr ⟨i, hi, rfl, hbi⟩)]
        · rw [if_neg hbi, if_neg]
          rintro h
          obtain ⟨i', h1, h2, h3⟩ := (d2 _).mp h
          have : i' = i := by
            rcases Nat.lt_trichotomy i' i with q | q | q
            · have := hU2 i' i q hi; omega
            · exact q
            · have := hU2 i i' q h1; omega
          subst this
          exact hbi h3
      · have a5' := a5 e he
        have n0 : ¬ btn x0 m := fun z => hx (hx0 m z)
        have n1 : ¬ btn (dset U b j) m := fun z => by
          obtain ⟨i, h1, h2, -⟩ := (d2 m).mp z
          exact hx ⟨i, h1, h2⟩
        rw [g2 m (fun i hi z => hx ⟨i, hi, z⟩) e, a5', if_neg n1]
        show (if btn x0 m then nI (C (130 + 7 * m + e)) else nI (C (60 + 7 * m + e))) = _
        rw [if_neg n0]
    | succ c ih =>
      intro j s1 L6 L7 hj F1 hf g1 g2
      obtain ⟨u, hue⟩ : ∃ u, U j = u := ⟨_, rfl⟩
      have hu2 : u < C 2 := by rw [← hue]; exact hU1 j (by omega)
      have cu := hc.2.2.2.2 u hu2
      have eU : qE s1 116 j = nI u := by rw [(hf 116 (fun m hm => by omega)).1, hU j (by omega), hue]
      have eD : qF s1 (12 + 3 * u) 5 = nI (C (50 + u)) := (congrFun (hf (12 + 3 * u) (fun m hm => by omega)).2 5).trans cu.2.2.2.2.2.1
      have hwt : ∀ w, wt1 C u b j = w → wt C U b (j + 1) = wt C U b j * w := fun w h => by show wt C U b j * wt1 C (U j) b j = _; rw [hue, h]
      have nx : ∀ (s2 : QST) (L6 L7 : Option Value) (w : Int64), wt1 C u b j = w → qfr (84 + 3 * u + 1) (84 + 3 * u + 1) s1 s2 → (∀ e, e < 7 → qE s2 (84 + 3 * u + 1) e = if btn b j then nI (C (130 + 7 * u + e)) else nI (C (60 + 7 * u + e))) → qW X PR (d - 1) (some .long) cd_Plots_suppose 1 [some (.ref (115)), some (.int (nI b)), some (.int (nI z)), some (.long (wt C U b j * w)), none, some (.int (nI (j + 1))), L6, L7] [] s2 Q := by
        intro s2 L6 L7 w hw F2 h2
        have := ih (j + 1) s2 L6 L7 (by omega) (F1.trans (F2.mono (by omega) (by omega))) (fun c hc => ?_) (fun i hi e he => ?_) (fun m hm e => ?_)
        · rw [hwt w hw] at this
          exact this
        · rw [F2.E (by have := hc u hu2; omega), F2.F (by have := hc u hu2; omega)]; exact hf c hc
        · by_cases ei : i = j
          · subst ei; rw [hue]; exact h2 e he
          · have : U i < U j := hU2 i j (by omega) (by omega)
            rw [F2.e (by omega)]; exact g1 i (by omega) e he
        · have : U j ≠ m := hm j (by omega)
          rw [F2.e (by omega)]; exact g2 m (fun i hi => hm i (by omega)) e
      by_cases hbj : btn b j
      · have w1 : wt1 C u b j = (nI (C (50 + u))).toInt64 := if_pos hbj
        refine qW.blk rfl ?_
        refine qv_iload rfl ?_
        refine qv_iload rfl ?_
        refine qv_icmp_geNf rfl rfl (by omega) (by omega) (by omega) (nx := 2) rfl ?_
        refine qW.blk rfl ?_
        refine qv_aload rfl ?_
        refine qv_gr ly_115 ⟨rfl, rfl, rfl⟩ (by omega) ?_
        refine qv_gr ly_9 ⟨rfl, rfl, rfl⟩ (by omega) ?_
        refine qv_aload rfl ?_
        refine qv_gr ly_115 ⟨rfl, rfl, rfl⟩ (by omega) ?_
        refine qv_iload rfl ?_
        refine qv_ia ly_116 rfl (by omega) (by decide) (eU) ?_
        refine qv_aa (j := u) (r := 12 + 3 * u) ly_10 rfl (show _ < 9 by omega) (by decide) rfl ?_
        refine qv_astore (L' := [_, _, _, _, _, _, _, _]) rfl ?_
        refine qv_iload rfl ?_
        refine qv_iload rfl ?_
        refine qv_ishr ?_
        refine qv_iconst (v := 1) rfl ?_
        refine qv_iand ?_
        refine qv_iconst (v := 1) rfl ?_
        refine qv_icmp_ne_f (fun z => z ((bit_is (by omega) (by omega)).mpr hbj)) (nx := 3) rfl ?_
        refine qW.blk rfl ?_
        refine qv_iconst (v := 1) rfl ?_
        refine qv_goto (tgt := 5) rfl ?_
        refine qW.blk rfl ?_
        refine qv_istore (L' := [_, _, _, _, _, _, _, _]) rfl ?_
        refine qv_aload rfl ?_
        refine qv_gr ly_115 ⟨rfl, rfl, rfl⟩ (by omega) ?_
        refine qv_gr ly_74 ⟨rfl, rfl, rfl⟩ (by omega) ?_
        refine qv_aload rfl ?_
        refine qv_gr ly_115 ⟨rfl, rfl, rfl⟩ (by omega) ?_
        refine qv_iload rfl ?_
        refine qv_ia ly_116 rfl (by omega) (by decide) (eU) ?_
        refine qv_aa (j := u) (r := 84 + 3 * u) ly_75 rfl (show _ < 9 by omega) (by decide) rfl ?_
        refine qv_iload rfl ?_
        refine qv_if_eq_f (by decide) (nx := 6) rfl ?_
        refine qW.blk rfl ?_
        refine qv_aload rfl ?_
        refine qv_gr (mb_now (m := u) (by omega)).1 ⟨rfl, rfl, rfl⟩ (by omega) ?_
        refine qv_goto (tgt := 8) rfl ?_
        refine qW.blk rfl ?_
        refine qv_virt ((mb_seat (m := u) (by omega)).1.rcv _) sg_Member_tellWishes rfl rfl (w_Member_tellWishes hP (by omega) (mb_seat (m := u) (by omega)) (mb_now (m := u) (by omega)).2.2 ⟨by decide, by decide⟩ (fun s2 F2 h2 => ?_)) 
        refine qv_lload rfl ?_
        refine qv_iload rfl ?_
        refine qv_if_eq_f (by decide) (nx := 9) rfl ?_
        refine qW.blk rfl ?_
        refine qv_aload rfl ?_
        refine qv_gi (mb_now (m := u) (by omega)).1 ⟨rfl, rfl, rfl⟩ ((F2.f (by omega)).trans eD) ?_
        refine qv_i2l ?_
        refine qv_goto (tgt := 11) rfl ?_
        refine qW.blk rfl ?_
        refine qv_lmul ?_
        refine qv_lstore (L' := [_, _, _, _, _, _, _, _]) rfl ?_
        refine qv_iinc (L' := [_, _, _, _, _, _, _, _]) rfl (nI_succ _).symm rfl ?_
        refine qv_goto (tgt := 1) rfl ?_
        exact nx s2 _ _ _ w1 F2 (fun e he => by rw [h2 e he, if_pos hbj, (hf (12 + 3 * u + 2) (fun m hm => by omega)).1]; exact (cu.2.2.2.2.2.2 e he).2)
      · have w1 : wt1 C u b j = ((100 : Int32) - nI (C (50 + u))).toInt64 := if_neg hbj
        refine qW.blk rfl ?_
        refine qv_iload rfl ?_
        refine qv_iload rfl ?_
        refine qv_icmp_geNf rfl rfl (by omega) (by omega) (by omega) (nx := 2) rfl ?_
        refine qW.blk rfl ?_
        refine qv_aload rfl ?_
        refine qv_gr ly_115 ⟨rfl, rfl, rfl⟩ (by omega) ?_
        refine qv_gr ly_9 ⟨rfl, rfl, rfl⟩ (by omega) ?_
        refine qv_aload rfl ?_
        refine qv_gr ly_115 ⟨rfl, rfl, rfl⟩ (by omega) ?_
        refine qv_iload rfl ?_
        refine qv_ia ly_116 rfl (by omega) (by decide) (eU) ?_
        refine qv_aa (j := u) (r := 12 + 3 * u) ly_10 rfl (show _ < 9 by omega) (by decide) rfl ?_
        refine qv_astore (L' := [_, _, _, _, _, _, _, _]) rfl ?_
        refine qv_iload rfl ?_
        refine qv_iload rfl ?_
        refine qv_ishr ?_
        refine qv_iconst (v := 1) rfl ?_
        refine qv_iand ?_
        refine qv_iconst (v := 1) rfl ?_
        refine qv_icmp_ne_t (fun z => hbj ((bit_is (by omega) (by omega)).mp z)) (tgt := 4) rfl ?_
        refine qW.blk rfl ?_
        refine qv_iconst (v := 0) rfl ?_
        refine qv_nil (nx := 5) rfl ?_
        refine qW.blk rfl ?_
        refine qv_istore (L' := [_, _, _, _, _, _, _, _]) rfl ?_
        refine qv_aload rfl ?_
        refine qv_gr ly_115 ⟨rfl, rfl, rfl⟩ (by omega) ?_
        refine qv_gr ly_74 ⟨rfl, rfl, rfl⟩ (by omega) ?_
        refine qv_aload rfl ?_
        refine qv_gr ly_115 ⟨rfl, rfl, rfl⟩ (by omega) ?_
        refine qv_iload rfl ?_
        refine qv_ia ly_116 rfl (by omega) (by decide) (eU) ?_
        refine qv_aa (j := u) (r := 84 + 3 * u) ly_75 rfl (show _ < 9 by omega) (by decide) rfl ?_
        refine qv_iload rfl ?_
        refine qv_if_eq_t (rfl) (tgt := 7) rfl ?_
        refine qW.blk rfl ?_
        refine qv_aload rfl ?_
        refine qv_gr (mb_now (m := u) (by omega)).1 ⟨rfl, rfl, rfl⟩ (by omega) ?_
        refine qv_nil (nx := 8) rfl ?_
        refine qW.blk rfl ?_
        refine qv_virt ((mb_seat (m := u) (by omega)).1.rcv _) sg_Member_tellWishes rfl rfl (w_Member_tellWishes hP (by omega) (mb_seat (m := u) (by omega)) (mb_now (m := u) (by omega)).2.1 ⟨by decide, by decide⟩ (fun s2 F2 h2 => ?_)) 
        refine qv_lload rfl ?_
        refine qv_iload rfl ?_
        refine qv_if_eq_t (rfl) (tgt := 10) rfl ?_
        refine qW.blk rfl ?_
        refine qv_iconst (v := 100) rfl ?_
        refine qv_aload rfl ?_
        refine qv_gi (mb_now (m := u) (by omega)).1 ⟨rfl, rfl, rfl⟩ ((F2.f (by omega)).trans eD) ?_
        refine qv_isub ?_
        refine qv_i2l ?_
        refine qv_nil (nx := 11) rfl ?_
        refine qW.blk rfl ?_
        refine qv_lmul ?_
        refine qv_lstore (L' := [_, _, _, _, _, _, _, _]) rfl ?_
        refine qv_iinc (L' := [_, _, _, _, _, _, _, _]) rfl (nI_succ _).symm rfl ?_
        refine qv_goto (tgt := 1) rfl ?_
        exact nx s2 _ _ _ w1 F2 (fun e he => by rw [h2 e he, if_neg hbj, (hf (12 + 3 * u + 1) (fun m hm => by omega)).1]; exact (cu.2.2.2.2.2.2 e he).1)
  refine qW.blk rfl ?_
  refine qv_lconst (v := 1) rfl ?_
  refine qv_lstore (L' := [_, _, _, _, _, _, _, _]) rfl ?_
  refine qv_iconst (v := 0) rfl ?_
  refine qv_istore (L' := [_, _, _, _, _, _, _, _]) rfl ?_
  refine qv_nil (nx := 1) rfl ?_
  exact loop z 0 s _ _ (by omega) (qfr.rf s) (fun c _ => ⟨rfl, rfl⟩) (fun i hi => absurd hi (Nat.not_lt_zero _)) (fun m _ e => rfl)
theorem w_findUnsure (hP : pm_np PR) {d : Nat} (hd : 2 ≤ d) {C : Nat → Nat} (hc : rC s 164 C) (hC : CB C) (hk : ∀ s', kfr 30 s s' → qF s' 163 = qF s 163 → (∀ i, i < (uns C (C 2)).length → qE s' 193 i = nI ((uns C (C 2)).getD i 0)) → Q (some (.int (nI (uns C (C 2)).length))) s') : qP X PR d 236 [.ref 163] s Q := by
  have hM := hC.2.2.2.1
  refine qP.of (L := [_, _, _]) (by omega) (hP _ rfl) ms_Model_findUnsure rfl ?_
  show qW X PR (d - 1) (some .int) cd_Model_findUnsure 0 _ _ _ _
  have done : ∀ (s1 : QST) (m : Nat), m ≤ C 2 → (m = C 2 ∨ (uns C m).length = 6) → kfr 30 s s1 → qF s1 163 = qF s 163 → (∀ i, i < (uns C m).length → qE s1 193 i = nI ((uns C m).getD i 0)) → Q (some (.int (nI (uns C m).length))) s1 := by
    intro s1 m hm h F1 f1 h1
    have e : uns C (C 2) = uns C m := by
      rcases h with h | h
      · rw [h]
      · obtain ⟨k, hk⟩ : ∃ k, C 2 = m + k := ⟨C 2 - m, by omega⟩
        rw [hk]; exact uns_full h k
    have := hk s1 F1 f1
    rw [e] at this
    exact this h1
  have loop : ∀ (c m : Nat) (s1 : QST), m + c = C 2 → kfr 30 s s1 → qF s1 163 = qF s 163 → (∀ i, i < (uns C m).length → qE s1 193 i = nI ((uns C m).getD i 0)) → qW X PR (d - 1) (some .int) cd_Model_findUnsure 1 [some (.ref (163)), some (.int (nI (uns C m).length)), some (.int (nI m))] [] s1 Q := by
    intro c
    induction c with
    | zero =>
      intro m s1 hm F1 f1 h1
      have e : m = C 2 := by omega
      subst e
      refine qW.blk rfl ?_
      refine qv_iload rfl ?_
      refine qv_aload rfl ?_
      refine qv_gr ly_163 ⟨rfl, rfl, rfl⟩ (by omega) ?_
      refine qv_iconst (v := 2) rfl ?_
      refine qv_ia (j := 2) ly_164 rfl (by omega) (by decide) ((hc.cg (F1.2.1 _ (by omega))) 2 (by decide)) ?_
      refine qv_icmp_geNt rfl rfl (by omega) (by omega) (by omega) (tgt := 6) rfl ?_
      refine qW.blk rfl ?_
      refine qv_iload rfl ?_
      refine qv_iret (rfl) ?_
      exact done s1 _ (Nat.le_refl _) (Or.inl rfl) F1 f1 h1
    | succ c ih =>
      intro m s1 hm F1 f1 h1
      have h6 := uns_le (C := C) m
      have hc1 := hc.cg (F1.2.1 164 (by omega))
      by_cases hl : (uns C m).length < 6
      · have hc5 := (hC.2.2.2.2.2 m (by omega)).2.2.2.2.2.1
        have r5 : qE s1 164 (50 + m) = nI (C (50 + m)) := hc1 _ (by omega)
        by_cases hp : 0 < C (50 + m)
        · have e : uns C (m + 1) = uns C m ++ [m] := by show (if _ then _ else _) = _; rw [if_pos ⟨hl, hp⟩]
          have el : (uns C (m + 1)).length = (uns C m).length + 1 := by rw [e, List.length_append]; rfl
          have nx := ih (m + 1) (uE s1 193 (uns C m).length (nI m)) (by omega) (F1.sE (by omega)) f1 (fun i hi => by
            rw [el] at hi
            rw [e, getD_snoc]
            by_cases ei : i = (uns C m).length
            · rw [if_neg (by omega), if_pos ei, ei, qE_uEs]
            · rw [if_pos (by omega), qE_uEk ei]; exact h1 i (by omega))
          rw [el] at nx
          refine qW.blk rfl ?_
          refine qv_iload rfl ?_
          refine qv_aload rfl ?_
          refine qv_gr ly_163 ⟨rfl, rfl, rfl⟩ (by omega) ?_
          refine qv_iconst (v := 2) rfl ?_
          refine qv_ia (j := 2) ly_164 rfl (by omega) (by decide) (hc1 2 (by decide)) ?_
          refine qv_icmp_geNf rfl rfl (by omega) (by omega) (by omega) (nx := 2) rfl ?_
          refine qW.blk rfl ?_
          refine qv_iload rfl ?_
          refine qv_iconst (v := 6) rfl ?_
          refine qv_icmp_geNf (q := 6) rfl rfl (by omega) (by omega) (by omega) (nx := 3) rfl ?_
          refine qW.blk rfl ?_
          refine qv_aload rfl ?_
          refine qv_gr ly_163 ⟨rfl, rfl, rfl⟩ (by omega) ?_
          refine qv_iconst (v := 50) rfl ?_
          refine qv_iload rfl ?_
          refine qv_iaddN (p := 50) rfl rfl ?_
          refine qv_ia ly_164 rfl (by omega) (by decide) (r5) ?_
          refine qv_if_le_f (nI_nle hp (by omega)) (nx := 4) rfl ?_
          refine qW.blk rfl ?_
          refine qv_aload rfl ?_
          refine qv_gr ly_163 ⟨rfl, rfl, rfl⟩ (by omega) ?_
          refine qv_iload rfl ?_
          refine qv_iload rfl ?_
          refine qv_is ly_193 rfl (by omega) (by decide) ?_
          refine qv_iinc (L' := [_, _, _]) rfl (nI_succ _).symm rfl ?_
          refine qv_nil (nx := 5) rfl ?_
          refine qW.blk rfl ?_
          refine qv_iinc (L' := [_, _, _]) rfl (nI_succ _).symm rfl ?_
          refine qv_goto (tgt := 1) rfl ?_
          exact nx
        · have e : uns C (m + 1) = uns C m := by show (if _ then _ else _) = _; rw [if_neg (fun z => hp z.2)]
          have e0 : C (50 + m) = 0 := by omega
          have nx := ih (m + 1) s1 (by omega) F1 f1 (by rw [e]; exact h1)
          rw [e] at nx
          rw [e0] at r5
          refine qW.blk rfl ?_
          refine qv_iload rfl ?_
          refine qv_aload rfl ?_
          refine qv_gr ly_163 ⟨rfl, rfl, rfl⟩ (by omega) ?_
          refine qv_iconst (v := 2) rfl ?_
          refine qv_ia (j := 2) ly_164 rfl (by omega) (by decide) (hc1 2 (by decide)) ?_
          refine qv_icmp_geNf rfl rfl (by omega) (by omega) (by omega) (nx := 2) rfl ?_
          refine qW.blk rfl ?_
          refine qv_iload rfl ?_
          refine qv_iconst (v := 6) rfl ?_
          refine qv_icmp_geNf (q := 6) rfl rfl (by omega) (by omega) (by omega) (nx := 3) rfl ?_
          refine qW.blk rfl ?_
          refine qv_aload rfl ?_
          refine qv_gr ly_163 ⟨rfl, rfl, rfl⟩ (by omega) ?_
          refine qv_iconst (v := 50) rfl ?_
          refine qv_iload rfl ?_
          refine qv_iaddN (p := 50) rfl rfl ?_
          refine qv_ia ly_164 rfl (by omega) (by decide) (r5) ?_
          refine qv_if_le_t (by decide) (tgt := 5) rfl ?_
          refine qW.blk rfl ?_
          refine qv_iinc (L' := [_, _, _]) rfl (nI_succ _).symm rfl ?_
          refine qv_goto (tgt := 1) rfl ?_
          exact nx
      · have e6 : (uns C m).length = 6 := by omega
        refine qW.blk rfl ?_
        refine qv_iload rfl ?_
        refine qv_aload rfl ?_
        refine qv_gr ly_163 ⟨rfl, rfl, rfl⟩ (by omega) ?_
        refine qv_iconst (v := 2) rfl ?_
        refine qv_ia (j := 2) ly_164 rfl (by omega) (by decide) (hc1 2 (by decide)) ?_
        refine qv_icmp_geNf rfl rfl (by omega) (by omega) (by omega) (nx := 2) rfl ?_
        refine qW.blk rfl ?_
        refine qv_iload rfl ?_
        refine qv_iconst (v := 6) rfl ?_
        refine qv_icmp_geNt (q := 6) rfl rfl (by omega) (by omega) (by omega) (tgt := 6) rfl ?_
        refine qW.blk rfl ?_
        refine qv_iload rfl ?_
        refine qv_iret (rfl) ?_
        exact done s1 m (by omega) (Or.inr e6) F1 f1 h1
  refine qW.blk rfl ?_
  refine qv_iconst (v := 0) rfl ?_
  refine qv_istore (L' := [_, _, _]) rfl ?_
  refine qv_iconst (v := 0) rfl ?_
  refine qv_istore (L' := [_, _, _]) rfl ?_
  refine qv_nil (nx := 1) rfl ?_
  exact loop (C 2) 0 s (by omega) (kfr.rf 30 s) rfl (fun i hi => absurd hi (Nat.not_lt_zero _))
end
