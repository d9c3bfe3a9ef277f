/-! what comes of an ORDER, plain or deep; both sides -/
theorem and_N {a b : Nat} (ha : a < 2 ^ 31) (hb : b < 2 ^ 31) : nI a &&& nI b = nI (a &&& b) := by
  apply Int32.toBitVec_inj.mp
  apply BitVec.eq_of_toNat_eq
  rw [Int32.toBitVec_and, BitVec.toNat_and, pk_tn (by omega), pk_tn (by omega), pk_tn (Nat.lt_of_le_of_lt Nat.and_le_left (by omega))]
theorem sub_and {a b : Nat} : a &&& b = b ↔ ∀ y, btn b y → btn a y := by
  constructor
  · intro h y hy
    rw [btn_tb] at hy ⊢
    rw [← h, Nat.testBit_and] at hy
    cases e : a.testBit y
    · rw [e] at hy; cases hy
    · rfl
  · intro h
    apply Nat.eq_of_testBit_eq
    intro y
    rw [Nat.testBit_and]
    cases e : b.testBit y
    · rw [Bool.and_false]
    · have := h y (btn_tb.mpr e)
      rw [btn_tb.mp this]; rfl
theorem dec_eq (x : Int32) : x + Int32.ofInt (-1) = x - 1 := by rw [Int32.sub_eq_add_neg]; rfl
theorem nI_dec (a : Nat) : nI (a + 1) - 1 = nI a := by rw [← nI_1, Int32.add_sub_cancel]
/-- plain voters: who stands behind the first i ones of row l -/
def plc (W : VW) (l : Nat → Nat) : Nat → Nat
  | 0 => l 0
  | i + 1 => gstd W (plc W l i) (l (i + 1))
/-- deep voters: what comes behind the last k ones of row l of z ends; the chain -/
def dpr (W : VW) (n : Nat) (l : Nat → Nat) (z : Nat) : Nat → Nat × Nat
  | 0 => (0, 0)
  | k + 1 => if ov W n (l (z - 1 - k)) &&& (dpr W n l z k).2 = (dpr W n l z k).2 then (l (z - 1 - k), (dpr W n l z k).2 ||| 2 ^ l (z - 1 - k)) else dpr W n l z k
/-- what comes of row l of z ends -/
def cmo (W : VW) (n : Nat) (l : Nat → Nat) (z g : Nat) : Nat := if g = 0 then plc W l (z - 1) else (dpr W n l z z).1
/-- a row of z ends that are there, no one twice -/
def rowok (n : Nat) (l : Nat → Nat) (z : Nat) : Prop := (∀ j, j < z → l j < n) ∧ ∀ i j, i < j → j < z → l i ≠ l j
theorem plc_lt {W : VW} {n z : Nat} {l : Nat → Nat} (h : ∀ j, j < z → l j < n) : ∀ i, i < z → plc W l i < n := by
  intro i
  induction i with
  | zero => exact fun hi => h 0 hi
  | succ i ih =>
    intro hi
    rcases gstd_or (W := W) (x := plc W l i) (y := l (i + 1)) with e | e
    · show gstd W (plc W l i) (l (i + 1)) < n; rw [e]; exact ih (by omega)
    · show gstd W (plc W l i) (l (i + 1)) < n; rw [e]; exact h _ hi
theorem dpr_s {W : VW} {n z k : Nat} {l : Nat → Nat} : dpr W n l z (k + 1) = if ov W n (l (z - 1 - k)) &&& (dpr W n l z k).2 = (dpr W n l z k).2 then (l (z - 1 - k), (dpr W n l z k).2 ||| 2 ^ l (z - 1 - k)) else dpr W n l z k := rfl
theorem dpr_inv {W : VW} {n z : Nat} {l : Nat → Nat} (hn : n ≤ 7) (h : ∀ j, j < z → l j < n) : ∀ k, k ≤ z → (dpr W n l z k).2 < 128 ∧ (∀ y, btn (dpr W n l z k).2 y → ∃ j, z - k ≤ j ∧ j < z ∧ l j = y) ∧ ((k = 0 ∧ (dpr W n l z k).2 = 0) ∨ (btn (dpr W n l z k).2 (dpr W n l z k).1 ∧ (dpr W n l z k).1 < n)) := by
  intro k
  induction k with
  | zero => exact fun _ => ⟨Nat.zero_lt_succ _, fun y hy => absurd hy (btn0 y), Or.inl ⟨rfl, rfl⟩⟩
  | succ k ih =>
    intro hk
    obtain ⟨h1, h2, h3⟩ := ih (by omega)
    have hl := h (z - 1 - k) (by omega)
    rw [dpr_s]
    by_cases hc : ov W n (l (z - 1 - k)) &&& (dpr W n l z k).2 = (dpr W n l z k).2
    · rw [if_pos hc]
      refine ⟨(or7 (by omega) h1).2, fun y hy => ?_, Or.inr ⟨btn_or.mpr (Or.inr rfl), hl⟩⟩
      rcases btn_or.mp hy with q | q
      · obtain ⟨j, j1, j2, j3⟩ := h2 y q
        exact ⟨j, by omega, j2, j3⟩
      · exact ⟨z - 1 - k, by omega, by omega, q⟩
    · rw [if_neg hc]
      refine ⟨h1, fun y hy => ?_, ?_⟩
      · obtain ⟨j, j1, j2, j3⟩ := h2 y hy
        exact ⟨j, by omega, j2, j3⟩
      · rcases h3 with ⟨q1, q2⟩ | q
        · exfalso
          rw [q2] at hc
          exact hc (Nat.and_zero _)
        · exact Or.inr q
theorem dpr_step {W : VW} {p n z k c : Nat} {l : Nat → Nat} (v : vok W p) (hn : n ≤ 7) (h : ∀ j, j < z → l j < n) (hk : k < z) (hc7 : c < 7) (hcl : l (z - 1 - k) ≠ c) : gstd W (if ov W n c &&& (dpr W n l z k).2 = (dpr W n l z k).2 then c else (dpr W n l z k).1) (if ov W n (l (z - 1 - k)) &&& (dpr W n l z k).2 = (dpr W n l z k).2 then l (z - 1 - k) else (dpr W n l z k).1) = if ov W n c &&& (dpr W n l z (k + 1)).2 = (dpr W n l z (k + 1)).2 then c else (dpr W n l z (k + 1)).1 := by
  obtain ⟨h1, h2, h3⟩ := dpr_inv (W := W) hn h k (by omega)
  have hl := h (z - 1 - k) (by omega)
  have hyn : ∀ y, btn (dpr W n l z k).2 y → y < n := fun y hy => by
    obtain ⟨j, _, j2, j3⟩ := h2 y hy
    rw [← j3]; exact h j j2
  rw [dpr_s]
  by_cases hA : ov W n (l (z - 1 - k)) &&& (dpr W n l z k).2 = (dpr W n l z k).2
  · rw [if_pos hA, if_pos hA]
    have hA' := sub_and.mp hA
    by_cases hC : ov W n c &&& (dpr W n l z k).2 = (dpr W n l z k).2
    · rw [if_pos hC]
      have hC' := sub_and.mp hC
      unfold gstd
      by_cases hb : gbts W (l (z - 1 - k)) c
      · rw [if_pos hb, if_neg]
        intro q
        have := sub_and.mp q (l (z - 1 - k)) (btn_or.mpr (Or.inr rfl))
        exact (gbts_tot v (fun e => hcl e.symm)).mp ((ov_bit (by omega) (by omega)).mp this).2 hb
      · rw [if_neg hb, if_pos]
        refine sub_and.mpr (fun y hy => ?_)
        rcases btn_or.mp hy with q | q
        · exact hC' y q
        · subst q
          exact (ov_bit (by omega) (by omega)).mpr ⟨hl, (gbts_tot v (fun e => hcl e.symm)).mpr hb⟩
    · rw [if_neg hC]
      have hcm : btn (dpr W n l z k).2 (dpr W n l z k).1 := by
        rcases h3 with ⟨q1, q2⟩ | q
        · exfalso; rw [q2] at hC; exact hC (Nat.and_zero _)
        · exact q.1
      have hb : gbts W (l (z - 1 - k)) (dpr W n l z k).1 := by
        have := hyn _ hcm
        exact ((ov_bit (by omega) (by omega)).mp (hA' _ hcm)).2
      unfold gstd
      rw [if_pos hb, if_neg]
      intro q
      exact hC (sub_and.mpr (fun y hy => sub_and.mp q y (btn_or.mpr (Or.inl hy))))
  · rw [if_neg hA, if_neg hA]
    have hcm : btn (dpr W n l z k).2 (dpr W n l z k).1 := by
      rcases h3 with ⟨q1, q2⟩ | q
      · exfalso; rw [q2] at hA; exact hA (Nat.and_zero _)
      · exact q.1
    have hcn := hyn _ hcm
    by_cases hC : ov W n c &&& (dpr W n l z k).2 = (dpr W n l z k).2
    · rw [if_pos hC]
      have hb := ((ov_bit (by omega) (by omega)).mp (sub_and.mp hC _ hcm)).2
      unfold gstd
      rw [if_neg ((gbts_tot v (gbts_ne hb)).mp hb)]
    · rw [if_neg hC]
      unfold gstd
      split <;> rfl
section
variable {X : pm_X} {PR : pm_P} {s : QST} {Q : QPost}
theorem w_comesPlain (hP : pm_np PR) {d : Nat} (hd : 1 ≤ d) {W : VW} {n z : Nat} {l : Nat → Nat} (hw : wgh s W n) (hn : n ≤ 7) (hl : ∀ j, j < z → l j < n) (hz1 : 1 ≤ z) (hz : z ≤ 7) (h1 : ∀ j, j < z → qE s 113 j = nI (l j)) (hk : Q (some (.int (nI (plc W l (z - 1))))) s) : qP X PR d 54 [.ref 111, .int (nI z)] s Q := by
  refine qP.of (L := [_, _, _, _]) (by omega) (hP _ rfl) ms_Orders_comesPlain rfl ?_
  show qW X PR (d - 1) (some .int) cd_Orders_comesPlain 0 _ _ _ _
  have loop : ∀ (c i : Nat), i + 1 + c = z → qW X PR (d - 1) (some .int) cd_Orders_comesPlain 1 [some (.ref (111)), some (.int (nI z)), some (.int (nI (plc W l i))), some (.int (nI (i + 1)))] [] s Q := by
    intro c
    induction c with
    | zero =>
      intro i hi
      refine qW.blk rfl ?_
      refine qv_iload rfl ?_
      refine qv_iload rfl ?_
      refine qv_icmp_geNt rfl rfl (by omega) (by omega) (by omega) (tgt := 5) rfl ?_
      refine qW.blk rfl ?_
      refine qv_iload rfl ?_
      refine qv_iret (rfl) ?_
      rw [show i = z - 1 by omega]
      exact hk
    | succ c ih =>
      intro i hi
      have hi1 := hl (i + 1) (by omega)
      have hp := plc_lt (W := W) hl i (by omega)
      have ho := hw.2.2 _ hi1
      have hlt := ov_lt (W := W) (n := n) (x := l (i + 1)) (by omega)
      have nx := ih (i + 1) (by omega)
      by_cases hb : gbts W (l (i + 1)) (plc W l i)
      · have e : plc W l (i + 1) = l (i + 1) := if_pos hb
        rw [e] at nx
        refine qW.blk rfl ?_
        refine qv_iload rfl ?_
        refine qv_iload rfl ?_
        refine qv_icmp_geNf rfl rfl (by omega) (by omega) (by omega) (nx := 2) rfl ?_
        refine qW.blk rfl ?_
        refine qv_aload rfl ?_
        refine qv_gr ly_111 ⟨rfl, rfl, rfl⟩ (by omega) ?_
        refine qv_aload rfl ?_
        refine qv_gr ly_111 ⟨rfl, rfl, rfl⟩ (by omega) ?_
        refine qv_iload rfl ?_
        refine qv_ia ly_113 rfl (by omega) (by decide) (h1 (i + 1) (by omega)) ?_
        refine qv_ia ly_112 rfl (by omega) (by decide) (ho) ?_
        refine qv_iload rfl ?_
        refine qv_ishr ?_
        refine qv_iconst (v := 1) rfl ?_
        refine qv_iand ?_
        refine qv_iconst (v := 1) rfl ?_
        refine qv_icmp_ne_f (fun q => q ((bit_is (by omega) (by omega)).mpr ((ov_bit (by omega) (by omega)).mpr ⟨hp, hb⟩))) (nx := 3) rfl ?_
        refine qW.blk rfl ?_
        refine qv_aload rfl ?_
        refine qv_gr ly_111 ⟨rfl, rfl, rfl⟩ (by omega) ?_
        refine qv_iload rfl ?_
        refine qv_ia ly_113 rfl (by omega) (by decide) (h1 (i + 1) (by omega)) ?_
        refine qv_istore (L' := [_, _, _, _]) rfl ?_
        refine qv_nil (nx := 4) rfl ?_
        refine qW.blk rfl ?_
        refine qv_iinc (L' := [_, _, _, _]) rfl (nI_succ _).symm rfl ?_
        refine qv_goto (tgt := 1) rfl ?_
        exact nx
      · have e : plc W l (i + 1) = plc W l i := if_neg hb
        rw [e] at nx
        refine qW.blk rfl ?_
        refine qv_iload rfl ?_
        refine qv_iload rfl ?_
        refine qv_icmp_geNf rfl rfl (by omega) (by omega) (by omega) (nx := 2) rfl ?_
        refine qW.blk rfl ?_
        refine qv_aload rfl ?_
        refine qv_gr ly_111 ⟨rfl, rfl, rfl⟩ (by omega) ?_
        refine qv_aload rfl ?_
        refine qv_gr ly_111 ⟨rfl, rfl, rfl⟩ (by omega) ?_
        refine qv_iload rfl ?_
        refine qv_ia ly_113 rfl (by omega) (by decide) (h1 (i + 1) (by omega)) ?_
        refine qv_ia ly_112 rfl (by omega) (by decide) (ho) ?_
        refine qv_iload rfl ?_
        refine qv_ishr ?_
        refine qv_iconst (v := 1) rfl ?_
        refine qv_iand ?_
        refine qv_iconst (v := 1) rfl ?_
        refine qv_icmp_ne_t (fun q => hb ((ov_bit (by omega) (by omega)).mp ((bit_is (by omega) (by omega)).mp q)).2) (tgt := 4) rfl ?_
        refine qW.blk rfl ?_
        refine qv_iinc (L' := [_, _, _, _]) rfl (nI_succ _).symm rfl ?_
        refine qv_goto (tgt := 1) rfl ?_
        exact nx
  refine qW.blk rfl ?_
  refine qv_aload rfl ?_
  refine qv_gr ly_111 ⟨rfl, rfl, rfl⟩ (by omega) ?_
  refine qv_iconst (v := 0) rfl ?_
  refine qv_ia (j := 0) ly_113 rfl (by omega) (by decide) (h1 0 (by omega)) ?_
  refine qv_istore (L' := [_, _, _, _]) rfl ?_
  refine qv_iconst (v := 1) rfl ?_
  refine qv_istore (L' := [_, _, _, _]) rfl ?_
  refine qv_nil (nx := 1) rfl ?_
  exact loop (z - 1) 0 (by omega)
theorem w_comesDeep (hP : pm_np PR) {d : Nat} (hd : 1 ≤ d) {W : VW} {n z : Nat} {l : Nat → Nat} (hw : wgh s W n) (hn : n ≤ 7) (hl : ∀ j, j < z → l j < n) (hz1 : 2 ≤ z) (hz : z ≤ 7) (h1 : ∀ j, j < z → qE s 113 j = nI (l j)) (hk : Q (some (.int (nI (dpr W n l z z).1))) s) : qP X PR d 53 [.ref 111, .int (nI z)] s Q := by
  refine qP.of (L := [_, _, _, _, _]) (by omega) (hP _ rfl) ms_Orders_comesDeep rfl ?_
  show qW X PR (d - 1) (some .int) cd_Orders_comesDeep 0 _ _ _ _
  have loop : ∀ (r k : Nat) (v : Int32), r + k = z → v = nI r - 1 → qW X PR (d - 1) (some .int) cd_Orders_comesDeep 1 [some (.ref (111)), some (.int (nI z)), some (.int (nI (dpr W n l z k).1)), some (.int (nI (dpr W n l z k).2)), some (.int (v))] [] s Q := by
    intro r
    induction r with
    | zero =>
      intro k v hk1 hv
      subst hv
      have e : k = z := by omega
      subst e
      refine qW.blk rfl ?_
      refine qv_iload rfl ?_
      refine qv_if_lt_t (by decide) (tgt := 5) rfl ?_
      refine qW.blk rfl ?_
      refine qv_iload rfl ?_
      refine qv_iret (rfl) ?_
      exact hk
    | succ r ih =>
      intro k v hk1 hv
      rw [nI_dec] at hv
      subst hv
      obtain ⟨i1, i2, i3⟩ := dpr_inv (W := W) (z := z) hn hl k (by omega)
      have er : z - 1 - k = r := by omega
      have hi1 := hl r (by omega)
      have ho := hw.2.2 _ hi1
      have hlt := ov_lt (W := W) (n := n) (x := l r) (by omega)
      have nx := ih (k + 1) (nI r - 1) (by omega) rfl
      rw [dpr_s, er] at nx
      have ea := and_N (a := ov W n (l r)) (b := (dpr W n l z k).2) (by omega) (by omega)
      by_cases hb : ov W n (l r) &&& (dpr W n l z k).2 = (dpr W n l z k).2
      · rw [if_pos hb] at nx
        have o1 := (or7 (u := l r) (x := (dpr W n l z k).2) (by omega) i1).1
        refine qW.blk rfl ?_
        refine qv_iload rfl ?_
        refine qv_if_lt_f (Int32.not_lt.mpr (nI_pos' (by omega))) (nx := 2) rfl ?_
        refine qW.blk rfl ?_
        refine qv_aload rfl ?_
        refine qv_gr ly_111 ⟨rfl, rfl, rfl⟩ (by omega) ?_
        refine qv_aload rfl ?_
        refine qv_gr ly_111 ⟨rfl, rfl, rfl⟩ (by omega) ?_
        refine qv_iload rfl ?_
        refine qv_ia ly_113 (rfl) (by omega) (by decide) (h1 r (by omega)) ?_
        refine qv_ia ly_112 rfl (by omega) (by decide) (ho) ?_
        refine qv_iload rfl ?_
        refine qv_iand ?_
        refine qv_iload rfl ?_
        refine qv_icmp_ne_f (fun q => q (ea.trans (congrArg nI hb))) (nx := 3) rfl ?_
        refine qW.blk rfl ?_
        refine qv_aload rfl ?_
        refine qv_gr ly_111 ⟨rfl, rfl, rfl⟩ (by omega) ?_
        refine qv_iload rfl ?_
        refine qv_ia ly_113 (rfl) (by omega) (by decide) (h1 r (by omega)) ?_
        refine qv_istore (L' := [_, _, _, _, _]) rfl ?_
        refine qv_iload rfl ?_
        refine qv_iconst (v := 1) rfl ?_
        refine qv_iload rfl ?_
        refine qv_ishl ?_
        refine qv_ior ?_
        refine qv_top (o1) ?_
        refine qv_istore (L' := [_, _, _, _, _]) rfl ?_
        refine qv_nil (nx := 4) rfl ?_
        refine qW.blk rfl ?_
        refine qv_iinc (L' := [_, _, _, _, _]) rfl (dec_eq _) rfl ?_
        refine qv_goto (tgt := 1) rfl ?_
        exact nx
      · rw [if_neg hb] at nx
        refine qW.blk rfl ?_
        refine qv_iload rfl ?_
        refine qv_if_lt_f (Int32.not_lt.mpr (nI_pos' (by omega))) (nx := 2) rfl ?_
        refine qW.blk rfl ?_
        refine qv_aload rfl ?_
        refine qv_gr ly_111 ⟨rfl, rfl, rfl⟩ (by omega) ?_
        refine qv_aload rfl ?_
        refine qv_gr ly_111 ⟨rfl, rfl, rfl⟩ (by omega) ?_
        refine qv_iload rfl ?_
        refine qv_ia ly_113 (rfl) (by omega) (by decide) (h1 r (by omega)) ?_
        refine qv_ia ly_112 rfl (by omega) (by decide) (ho) ?_
        refine qv_iload rfl ?_
        refine qv_iand ?_
        refine qv_iload rfl ?_
        refine qv_icmp_ne_t (fun q => hb ((nI_eq (by have := Nat.and_le_left (n := ov W n (l r)) (m := (dpr W n l z k).2); omega) (by omega)).mp (ea.symm.trans q))) (tgt := 4) rfl ?_
        refine qW.blk rfl ?_
        refine qv_iinc (L' := [_, _, _, _, _]) rfl (dec_eq _) rfl ?_
        refine qv_goto (tgt := 1) rfl ?_
        exact nx
  have e1 : dpr W n l z 1 = (l (z - 1), 2 ^ l (z - 1)) := by
    show (if ov W n (l (z - 1 - 0)) &&& 0 = 0 then (l (z - 1 - 0), 0 ||| 2 ^ l (z - 1 - 0)) else (0, 0)) = _
    rw [if_pos (Nat.and_zero _), Nat.zero_or, Nat.sub_zero]
  have hl1 := hl (z - 1) (by omega)
  have nx := loop (z - 1) 1 (nI (z - 2)) (by omega) (by rw [show z - 1 = (z - 2) + 1 by omega, nI_dec])
  rw [e1] at nx
  refine qW.blk rfl ?_
  refine qv_aload rfl ?_
  refine qv_gr ly_111 ⟨rfl, rfl, rfl⟩ (by omega) ?_
  refine qv_iload rfl ?_
  refine qv_iconst (v := 1) rfl ?_
  refine qv_isubN (q := 1) rfl rfl (by omega) ?_
  refine qv_ia ly_113 rfl (by omega) (by decide) (h1 (z - 1) (by omega)) ?_
  refine qv_istore (L' := [_, _, _, _, _]) rfl ?_
  refine qv_iconst (v := 1) rfl ?_
  refine qv_iload rfl ?_
  refine qv_ishl ?_
  refine qv_top ((shl7 _ (by omega)).1) ?_
  refine qv_istore (L' := [_, _, _, _, _]) rfl ?_
  refine qv_iload rfl ?_
  refine qv_iconst (v := 2) rfl ?_
  refine qv_isubN (q := 2) rfl rfl (by omega) ?_
  refine qv_istore (L' := [_, _, _, _, _]) rfl ?_
  refine qv_nil (nx := 1) rfl ?_
  exact nx
theorem w_comesOf (hP : pm_np PR) {d : Nat} (hd : 2 ≤ d) {W : VW} {n z : Nat} {l : Nat → Nat} (hw : wgh s W n) (hn : n ≤ 7) (hl : ∀ j, j < z → l j < n) (hz1 : 2 ≤ z) (hz : z ≤ 7) (h1 : ∀ j, j < z → qE s 113 j = nI (l j)) (g : Int32) (hk : Q (some (.int (nI (cmo W n l z (if g = 0 then 0 else 1))))) s) : qP X PR d 52 [.ref 111, .int (nI z), .int g] s Q := by
  refine qP.of (L := [_, _, _]) (by omega) (hP _ rfl) ms_Orders_comesOf rfl ?_
  show qW X PR (d - 1) (some .int) cd_Orders_comesOf 0 _ _ _ _
  by_cases hg : g = 0
  · rw [if_pos hg] at hk
    refine qW.blk rfl ?_
    refine qv_iload rfl ?_
    refine qv_if_eq_t (hg) (tgt := 2) rfl ?_
    refine qW.blk rfl ?_
    refine qv_aload rfl ?_
    refine qv_iload rfl ?_
    refine qv_virt (ly_111.rcv _) sg_Orders_comesPlain rfl rfl (w_comesPlain hP (by omega) hw hn hl (by omega) hz h1 ?_) 
    refine qv_nil (nx := 3) rfl ?_
    refine qW.blk rfl ?_
    refine qv_iret (rfl) ?_
    exact hk
  · rw [if_neg hg] at hk
    refine qW.blk rfl ?_
    refine qv_iload rfl ?_
    refine qv_if_eq_f (hg) (nx := 1) rfl ?_
    refine qW.blk rfl ?_
    refine qv_aload rfl ?_
    refine qv_iload rfl ?_
    refine qv_virt (ly_111.rcv _) sg_Orders_comesDeep rfl rfl (w_comesDeep hP (by omega) hw hn hl hz1 hz h1 ?_) 
    refine qv_goto (tgt := 3) rfl ?_
    refine qW.blk rfl ?_
    refine qv_iret (rfl) ?_
    exact hk
theorem w_orderEnds (hP : pm_np PR) {d : Nat} (hd : 7 ≤ d) {N p n z : Nat} {W : VW} {l : Nat → Nat} (hv : rview s N W) (v : vok W p) (hn : n ≤ 7) (hl : rowok n l z) (hz1 : 1 ≤ z) (hz : z ≤ 7) (h0 : qF s 163 45 = nI z) (h1 : ∀ j, j < z → qE s 191 j = nI (l j)) (g : Int32) (hk : ∀ s', qfr 192 192 s s' → Q (some (.int (nI (cmo W n l z (if g = 0 then 0 else 1))))) s') : qP X PR d 219 [.ref 163, .int g] s Q := by
  refine qP.of (L := [_, _, _, _]) (by omega) (hP _ rfl) ms_Model_orderEnds rfl ?_
  show qW X PR (d - 1) (some .int) cd_Model_orderEnds 0 _ _ _ _
  by_cases hg : g = 0
  · rw [if_pos hg] at hk
    have loop : ∀ (c i : Nat), i + 1 + c = z → qW X PR (d - 1) (some .int) cd_Model_orderEnds 2 [some (.ref (163)), some (.int (g)), some (.int (nI (plc W l i))), some (.int (nI (i + 1)))] [] s Q := by
      intro c
      induction c with
      | zero =>
        intro i hi
        refine qW.blk rfl ?_
        refine qv_iload rfl ?_
        refine qv_aload rfl ?_
        refine qv_gi ly_163 ⟨rfl, rfl, rfl⟩ (h0) ?_
        refine qv_icmp_geNt rfl rfl (by omega) (by omega) (by omega) (tgt := 4) rfl ?_
        refine qW.blk rfl ?_
        refine qv_iload rfl ?_
        refine qv_iret (rfl) ?_
        rw [show i = z - 1 by omega]
        exact hk s (qfr.rf s)
      | succ c ih =>
        intro i hi
        have hi1 := hl.1 (i + 1) (by omega)
        have hp := plc_lt (W := W) hl.1 i (by omega)
        refine qW.blk rfl ?_
        refine qv_iload rfl ?_
        refine qv_aload rfl ?_
        refine qv_gi ly_163 ⟨rfl, rfl, rfl⟩ (h0) ?_
        refine qv_icmp_geNf rfl rfl (by omega) (by omega) (by omega) (nx := 3) rfl ?_
        refine qW.blk rfl ?_
        refine qv_aload rfl ?_
        refine qv_iload rfl ?_
        refine qv_aload rfl ?_
        refine qv_gr ly_163 ⟨rfl, rfl, rfl⟩ (by omega) ?_
        refine qv_iload rfl ?_
        refine qv_ia ly_191 rfl (by omega) (by decide) (h1 (i + 1) (by omega)) ?_
        refine qv_virtE (ly_163.rcv _) sg_Model_standing rfl rfl (r_M_std hP (by omega) hv (by omega) (by omega)) ?_
        refine qv_istore (L' := [_, _, _, _]) rfl ?_
        refine qv_iinc (L' := [_, _, _, _]) rfl (nI_succ _).symm rfl ?_
        refine qv_goto (tgt := 2) rfl ?_
        exact ih (i + 1) (by omega)
    refine qW.blk rfl ?_
    refine qv_iload rfl ?_
    refine qv_if_ne_f (fun q => q hg) (nx := 1) rfl ?_
    refine qW.blk rfl ?_
    refine qv_aload rfl ?_
    refine qv_gr ly_163 ⟨rfl, rfl, rfl⟩ (by omega) ?_
    refine qv_iconst (v := 0) rfl ?_
    refine qv_ia (j := 0) ly_191 rfl (by omega) (by decide) (h1 0 (by omega)) ?_
    refine qv_istore (L' := [_, _, _, _]) rfl ?_
    refine qv_iconst (v := 1) rfl ?_
    refine qv_istore (L' := [_, _, _, _]) rfl ?_
    refine qv_nil (nx := 2) rfl ?_
    exact loop (z - 1) 0 (by omega)
  · rw [if_neg hg] at hk
    have loop : ∀ (i k : Nat) (x : Int32) (s1 : QST) (L3 : Option Value), i + k = z → x = nI i → qfr 192 192 s s1 → (0 < k → ∀ c, c < 7 → ∃ u, u < 7 ∧ qE s1 192 (7 * (i + 1) + c) = nI u ∧ ((∀ j, i + 1 ≤ j → j < z → l j ≠ c) → u = if ov W n c &&& (dpr W n l z (k - 1)).2 = (dpr W n l z (k - 1)).2 then c else (dpr W n l z (k - 1)).1)) → qW X PR (d - 1) (some .int) cd_Model_orderEnds 6 [some (.ref (163)), some (.int (g)), some (.int (x)), L3] [] s1 Q := by
      intro i
      induction i with
      | zero =>
        intro k x s1 L3 hk1 hx F1 hT
        subst hx
        have ek : k = z := by omega
        subst ek
        have hl0 := hl.1 0 (by omega)
        obtain ⟨u, u1, u2, u3⟩ := hT (by omega) (l 0) (by omega)
        have e0 : (dpr W n l k k).1 = u := by
          rw [u3 (fun j j1 j2 => Ne.symm (hl.2 0 j (by omega) j2))]
          obtain ⟨k', rfl⟩ : ∃ k', k = k' + 1 := ⟨k - 1, by omega⟩
          rw [dpr_s, show k' + 1 - 1 - k' = 0 by omega, show k' + 1 - 1 = k' by omega]
          split <;> rfl
        have fin := hk s1 F1
        have e1 : cmo W n l k 1 = u := e0
        rw [e1] at fin
        refine qW.blk rfl ?_
        refine qv_iload rfl ?_
        refine qv_if_le_t (by decide) (tgt := 14) rfl ?_
        refine qW.blk rfl ?_
        refine qv_aload rfl ?_
        refine qv_gr ly_163 ⟨rfl, rfl, rfl⟩ (by omega) ?_
        refine qv_iconst (v := 7) rfl ?_
        refine qv_aload rfl ?_
        refine qv_gr ly_163 ⟨rfl, rfl, rfl⟩ (by omega) ?_
        refine qv_iconst (v := 0) rfl ?_
        refine qv_ia (j := 0) ly_191 rfl (by omega) (by decide) ((F1.e (by omega)).trans (h1 0 (by omega))) ?_
        refine qv_iaddN (p := 7) rfl rfl ?_
        refine qv_ia ly_192 rfl (by omega) (by decide) (u2) ?_
        refine qv_iret (rfl) ?_
        exact fin
      | succ i ih =>
        intro k x s1 L3 hk1 hx F1 hT
        subst hx
        have hli := hl.1 i (by omega)
        have inner : ∀ (c2 c : Nat) (s2 : QST), c + c2 = 7 → qfr 192 192 s s2 → (0 < k → ∀ c, c < 7 → ∃ u, u < 7 ∧ qE s2 192 (7 * (i + 1 + 1) + c) = nI u ∧ ((∀ j, i + 1 + 1 ≤ j → j < z → l j ≠ c) → u = if ov W n c &&& (dpr W n l z (k - 1)).2 = (dpr W n l z (k - 1)).2 then c else (dpr W n l z (k - 1)).1)) → (∀ c', c' < c → ∃ u, u < 7 ∧ qE s2 192 (7 * (i + 1) + c') = nI u ∧ ((∀ j, i + 1 ≤ j → j < z → l j ≠ c') → u = if ov W n c' &&& (dpr W n l z k).2 = (dpr W n l z k).2 then c' else (dpr W n l z k).1)) → qW X PR (d - 1) (some .int) cd_Model_orderEnds 8 [some (.ref (163)), some (.int (g)), some (.int (nI (i + 1))), some (.int (nI c))] [] s2 Q := by
          intro c2
          induction c2 with
          | zero =>
            intro c s2 hc F2 hT2 hR
            have e : c = 7 := by omega
            subst e
            refine qW.blk rfl ?_
            refine qv_iload rfl ?_
            refine qv_iconst (v := 7) rfl ?_
            refine qv_icmp_geNt (q := 7) rfl rfl (by omega) (by omega) (by omega) (tgt := 13) rfl ?_
            refine qW.blk rfl ?_
            refine qv_iinc (L' := [_, _, _, _]) rfl (dec_eq _) rfl ?_
            refine qv_goto (tgt := 6) rfl ?_
            exact ih (k + 1) _ s2 _ (by omega) (nI_dec i) F2 (fun _ => hR)
          | succ c2 ih2 =>
            intro c s2 hc F2 hT2 hR
            have nx : ∀ u, u < 7 → ((∀ j, i + 1 ≤ j → j < z → l j ≠ c) → u = if ov W n c &&& (dpr W n l z k).2 = (dpr W n l z k).2 then c else (dpr W n l z k).1) → qW X PR (d - 1) (some .int) cd_Model_orderEnds 8 [some (.ref (163)), some (.int (g)), some (.int (nI (i + 1))), some (.int (nI (c + 1)))] [] (uE s2 192 (7 * (i + 1) + c) (nI u)) Q := by
              intro u hu7 hu
              refine ih2 (c + 1) _ (by omega) (F2.trans ((qfr.rf s2).uE (by omega))) (fun hk0 c' hc' => ?_) (fun c' hc' => ?_)
              · rw [qE_uEk (by omega)]; exact hT2 hk0 c' hc'
              · by_cases e : c' = c
                · subst e; rw [qE_uEs]; exact ⟨u, hu7, rfl, hu⟩
                · rw [qE_uEk (by omega)]; exact hR c' (by omega)
            by_cases hk0 : k = 0
            · subst hk0
              have ez : i + 1 = z := by omega
              refine qW.blk rfl ?_
              refine qv_iload rfl ?_
              refine qv_iconst (v := 7) rfl ?_
              refine qv_icmp_geNf (q := 7) rfl rfl (by omega) (by omega) (by omega) (nx := 9) rfl ?_
              refine qW.blk rfl ?_
              refine qv_aload rfl ?_
              refine qv_gr ly_163 ⟨rfl, rfl, rfl⟩ (by omega) ?_
              refine qv_iconst (v := 7) rfl ?_
              refine qv_iload rfl ?_
              refine qv_imulN (p := 7) rfl rfl ?_
              refine qv_iload rfl ?_
              refine qv_iaddN rfl rfl ?_
              refine qv_iload rfl ?_
              refine qv_aload rfl ?_
              refine qv_gi ly_163 ⟨rfl, rfl, rfl⟩ ((F2.f (by omega)).trans h0) ?_
              refine qv_icmp_neNf rfl rfl (by omega) (by omega) (by omega) (nx := 10) rfl ?_
              refine qW.blk rfl ?_
              refine qv_iload rfl ?_
              refine qv_goto (tgt := 12) rfl ?_
              refine qW.blk rfl ?_
              refine qv_is ly_192 rfl (by omega) (by decide) ?_
              refine qv_iinc (L' := [_, _, _, _]) rfl (nI_succ _).symm rfl ?_
              refine qv_goto (tgt := 8) rfl ?_
              refine nx c (by omega) (fun _ => ?_)
              show c = if ov W n c &&& 0 = 0 then c else 0
              rw [if_pos (Nat.and_zero _)]
            · obtain ⟨k', rfl⟩ : ∃ k', k = k' + 1 := ⟨k - 1, by omega⟩
              have hli1 := hl.1 (i + 1) (by omega)
              obtain ⟨a, a1, a2, a3⟩ := hT2 (by omega) c (by omega)
              obtain ⟨b, b1, b2, b3⟩ := hT2 (by omega) (l (i + 1)) (by omega)
              have eb := b3 (fun j j1 j2 => Ne.symm (hl.2 (i + 1) j (by omega) j2))
              refine qW.blk rfl ?_
              refine qv_iload rfl ?_
              refine qv_iconst (v := 7) rfl ?_
              refine qv_icmp_geNf (q := 7) rfl rfl (by omega) (by omega) (by omega) (nx := 9) rfl ?_
              refine qW.blk rfl ?_
              refine qv_aload rfl ?_
              refine qv_gr ly_163 ⟨rfl, rfl, rfl⟩ (by omega) ?_
              refine qv_iconst (v := 7) rfl ?_
              refine qv_iload rfl ?_
              refine qv_imulN (p := 7) rfl rfl ?_
              refine qv_iload rfl ?_
              refine qv_iaddN rfl rfl ?_
              refine qv_iload rfl ?_
              refine qv_aload rfl ?_
              refine qv_gi ly_163 ⟨rfl, rfl, rfl⟩ ((F2.f (by omega)).trans h0) ?_
              refine qv_icmp_neNt rfl rfl (by omega) (by omega) (by omega) (tgt := 11) rfl ?_
              refine qW.blk rfl ?_
              refine qv_aload rfl ?_
              refine qv_aload rfl ?_
              refine qv_gr ly_163 ⟨rfl, rfl, rfl⟩ (by omega) ?_
              refine qv_iconst (v := 7) rfl ?_
              refine qv_iload rfl ?_
              refine qv_iconst (v := 1) rfl ?_
              refine qv_iaddN (q := 1) rfl rfl ?_
              refine qv_imulN (p := 7) rfl rfl ?_
              refine qv_iload rfl ?_
              refine qv_iaddN rfl rfl ?_
              refine qv_ia ly_192 rfl (by omega) (by decide) (a2) ?_
              refine qv_aload rfl ?_
              refine qv_gr ly_163 ⟨rfl, rfl, rfl⟩ (by omega) ?_
              refine qv_iconst (v := 7) rfl ?_
              refine qv_iload rfl ?_
              refine qv_iconst (v := 1) rfl ?_
              refine qv_iaddN (q := 1) rfl rfl ?_
              refine qv_imulN (p := 7) rfl rfl ?_
              refine qv_aload rfl ?_
              refine qv_gr ly_163 ⟨rfl, rfl, rfl⟩ (by omega) ?_
              refine qv_iload rfl ?_
              refine qv_ia ly_191 rfl (by omega) (by decide) ((F2.e (by omega)).trans (h1 (i + 1) (by omega))) ?_
              refine qv_iaddN rfl rfl ?_
              refine qv_ia ly_192 rfl (by omega) (by decide) (b2) ?_
              refine qv_virtE (ly_163.rcv _) sg_Model_standing rfl rfl (r_M_std hP (by omega) (hv.fr (F2.E (by omega)) (F2.E (by omega)) (F2.E (by omega)) (fun k _ => F2.f (by omega))) (by omega) (by omega)) ?_
              refine qv_nil (nx := 12) rfl ?_
              refine qW.blk rfl ?_
              refine qv_is ly_192 rfl (by omega) (by decide) ?_
              refine qv_iinc (L' := [_, _, _, _]) rfl (nI_succ _).symm rfl ?_
              refine qv_goto (tgt := 8) rfl ?_
              refine nx _ (gstd_lt a1 b1) (fun hc' => ?_)
              have ea := a3 (fun j j1 j2 => hc' j (by omega) j2)
              rw [ea, eb]
              have := dpr_step v hn hl.1 (k := k') (c := c) (by omega) (by omega) (by rw [show z - 1 - k' = i + 1 by omega]; exact hc' (i + 1) (by omega) (by omega))
              rw [show z - 1 - k' = i + 1 by omega] at this
              exact this
        refine qW.blk rfl ?_
        refine qv_iload rfl ?_
        refine qv_if_le_f (nI_nle (by omega) (by omega)) (nx := 7) rfl ?_
        refine qW.blk rfl ?_
        refine qv_iconst (v := 0) rfl ?_
        refine qv_istore (L' := [_, _, _, _]) rfl ?_
        refine qv_nil (nx := 8) rfl ?_
        exact inner 7 0 s1 (by omega) F1 hT (fun c' hc' => by omega)
    refine qW.blk rfl ?_
    refine qv_iload rfl ?_
    refine qv_if_ne_t (hg) (tgt := 5) rfl ?_
    refine qW.blk rfl ?_
    refine qv_aload rfl ?_
    refine qv_gi ly_163 ⟨rfl, rfl, rfl⟩ (h0) ?_
    refine qv_istore (L' := [_, _, _, _]) rfl ?_
    refine qv_nil (nx := 6) rfl ?_
    exact loop z 0 (nI z) s _ (by omega) rfl (qfr.rf s) (fun h => absurd h (Nat.lt_irrefl 0))
end
