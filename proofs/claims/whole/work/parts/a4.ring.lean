/-! the RING: the class goes by rows, the reference by mixed numbers -/
/-- each beats the next, the last one the first -/
def rng (W : VW) (l : Nat → Nat) (z : Nat) : Prop := ∀ i, i < z → gbts W (l i) (l (if i + 1 < z then i + 1 else 0))
theorem rng_cg {W : VW} {l l' : Nat → Nat} {z : Nat} (h : ∀ j, j < z → l j = l' j) (hr : rng W l z) : rng W l' z := by
  intro i hi
  have := hr i hi
  rw [h i hi, h (if i + 1 < z then i + 1 else 0) (by split <;> omega)] at this
  exact this
/-- the digits of a number: place 0 is 0 -/
def wdg (z w k : Nat) : Nat := w / z ^ (z - 1 - k) % z
def rq (z w k : Nat) : Nat := if k = 0 then 0 else wdg z w k
def nmz (z : Nat) (q : Nat → Nat) : Nat → Nat
  | 0 => 0
  | k + 1 => nmz z q k * z + q (k + 1)
theorem nmz_lt {z : Nat} {q : Nat → Nat} (h : ∀ k, k < z → q k < z) : ∀ k, k < z → nmz z q k < z ^ k := by
  intro k
  induction k with
  | zero => intro _; exact Nat.one_pos
  | succ k ih =>
    intro hk
    have h1 := ih (by omega)
    have h2 := h (k + 1) hk
    show nmz z q k * z + q (k + 1) < z ^ k * z
    have h3 := Nat.mul_le_mul_right z (show nmz z q k + 1 ≤ z ^ k from h1)
    rw [Nat.succ_mul] at h3
    omega
theorem nmz_div {z : Nat} {q : Nat → Nat} (h : ∀ k, k < z → q k < z) : ∀ m k, k + m + 1 = z → nmz z q (z - 1) / z ^ m = nmz z q k := by
  intro m
  induction m with
  | zero => intro k hk; rw [show z - 1 = k by omega, Nat.pow_zero, Nat.div_one]
  | succ m ih =>
    intro k hk
    have h1 := ih (k + 1) (by omega)
    have h2 := h (k + 1) (by omega)
    rw [Nat.pow_succ, ← Nat.div_div_eq_div_mul, h1]
    show (nmz z q k * z + q (k + 1)) / z = _
    rw [Nat.mul_comm, Nat.mul_add_div (by omega), Nat.div_eq_of_lt h2, Nat.add_zero]
theorem nmz_rq {z : Nat} {q : Nat → Nat} (h : ∀ k, k < z → q k < z) (h0 : q 0 = 0) : ∀ k, k < z → rq z (nmz z q (z - 1)) k = q k := by
  intro k hk
  unfold rq
  by_cases e : k = 0
  · rw [if_pos e, e, h0]
  · rw [if_neg e]
    unfold wdg
    rw [nmz_div h (z - 1 - k) k (by omega)]
    obtain ⟨k', rfl⟩ : ∃ k', k = k' + 1 := ⟨k - 1, by omega⟩
    show (nmz z q k' * z + q (k' + 1)) % z = _
    rw [Nat.mul_comm, Nat.mul_add_mod, Nat.mod_eq_of_lt (h _ hk)]
theorem rq_lt {z w k : Nat} (hz : 0 < z) : rq z w k < z := by
  unfold rq wdg
  split
  · exact hz
  · exact Nat.mod_lt _ hz
theorem wdv_s {z w k : Nat} (hk : k + 1 < z) : w / z ^ (z - 1 - (k + 1)) = w / z ^ (z - 1 - k) * z + rq z w (k + 1) := by
  unfold rq wdg
  rw [if_neg (by omega)]
  have e : z - 1 - k = z - 1 - (k + 1) + 1 := by omega
  rw [e, Nat.pow_succ, ← Nat.div_div_eq_div_mul, Nat.mul_comm]
  exact (Nat.div_add_mod _ _).symm
theorem wdv_cg {z w w' : Nat} (hw : w < z ^ (z - 1)) (hw' : w' < z ^ (z - 1)) : ∀ k, k < z → (∀ j, j ≤ k → rq z w j = rq z w' j) → w / z ^ (z - 1 - k) = w' / z ^ (z - 1 - k) := by
  intro k
  induction k with
  | zero => intro _ _; rw [Nat.sub_zero, Nat.div_eq_of_lt hw, Nat.div_eq_of_lt hw']
  | succ k ih =>
    intro hk h
    rw [wdv_s hk, wdv_s hk, ih (by omega) (fun j hj => h j (by omega)), h (k + 1) (Nat.le_refl _)]
theorem rq_one {z w w' : Nat} (hz : 1 ≤ z) (hw : w < z ^ (z - 1)) (hw' : w' < z ^ (z - 1)) (h : ∀ j, j < z → rq z w j = rq z w' j) : w = w' := by
  have := wdv_cg hw hw' (z - 1) (by omega) (fun j hj => h j (by omega))
  rw [Nat.sub_self, Nat.pow_zero, Nat.div_one, Nat.div_one] at this
  exact this
theorem rq_lex {z w w' i : Nat} (hw : w < z ^ (z - 1)) (hw' : w' < z ^ (z - 1)) (hi : i < z) (h : ∀ j, j < i → rq z w j = rq z w' j) (hlt : rq z w i < rq z w' i) : w < w' := by
  refine Classical.byContradiction fun q => ?_
  have hle := Nat.div_le_div_right (c := z ^ (z - 1 - i)) (Nat.not_lt.mp q)
  cases i with
  | zero =>
    have : rq z w 0 = rq z w' 0 := rfl
    omega
  | succ i =>
    have e := wdv_cg hw hw' i (by omega) (fun j hj => h j (by omega))
    rw [wdv_s hi, wdv_s hi, e] at hle
    omega
/-- the reference's number is good -/
def rgood (W : VW) (z : Nat) (e : Nat → Nat) (w : Nat) : Prop := rowok z (rq z w) z ∧ rng W (fun k => e (rq z w k)) z
theorem z_pow : ∀ z, z < 8 → z ^ (z - 1) ≤ 117649 := by decide
/-- the least row by rank is the least number -/
theorem ring_least {W : VW} {z k0 : Nat} {e : Nat → Nat} (hz1 : 1 ≤ z) (hz : z ≤ 7) (hk : k0 < fct z) (h0 : prow z k0 0 = 0) (hr : rng W (fun j => e (prow z k0 j)) z) (hl : ∀ k, k < k0 → k < fct z → prow z k 0 = 0 → ¬ rng W (fun j => e (prow z k j)) z) : ∃ w0, w0 < z ^ (z - 1) ∧ rgood W z e w0 ∧ (∀ j, j < z → rq z w0 j = prow z k0 j) ∧ ∀ w, w < w0 → ¬ rgood W z e w := by
  obtain ⟨r1, r2⟩ := prow_ok hz hk
  have hq := nmz_rq (z := z) (q := prow z k0) r1.1 h0
  have hlt : nmz z (prow z k0) (z - 1) < z ^ (z - 1) := nmz_lt r1.1 (z - 1) (by omega)
  refine ⟨nmz z (prow z k0) (z - 1), hlt, ⟨rowok_cg r1 hq, rng_cg (fun j hj => by show e (prow z k0 j) = e (rq z (nmz z (prow z k0) (z - 1)) j); rw [hq j hj]) hr⟩, hq, fun w hw hg => ?_⟩
  obtain ⟨g1, g2⟩ := hg
  obtain ⟨p1, p2⟩ := prow_of hz g1
  have hn : k0 ≤ rkr (rq z w) z z := by
    refine Nat.not_lt.mp (fun q => ?_)
    exact hl _ q p1 (p2 0 (by omega)) (rng_cg (fun j hj => by show e (rq z w j) = e (prow z _ j); rw [p2 j hj]) g2)
  rcases row_lex hz g1 (p := prow z k0) (by rw [r2]; exact hn) with h | ⟨i, i1, i2, i3⟩
  · have := rq_one hz1 (show w < z ^ (z - 1) by omega) hlt (fun j hj => by rw [hq j hj]; exact (h j hj).symm)
    omega
  · have := rq_lex hlt (show w < z ^ (z - 1) by omega) i1 (fun j hj => by rw [hq j (by omega)]; exact i2 j hj) (by rw [hq i i1]; exact i3)
    omega
theorem ring_none {W : VW} {z : Nat} {e : Nat → Nat} (hz1 : 1 ≤ z) (hz : z ≤ 7) (hl : ∀ k, k < fct z → prow z k 0 = 0 → ¬ rng W (fun j => e (prow z k j)) z) : ∀ w, ¬ rgood W z e w := by
  rintro w ⟨g1, g2⟩
  obtain ⟨p1, p2⟩ := prow_of hz g1
  exact hl _ p1 (p2 0 (by omega)) (rng_cg (fun j hj => by show e (rq z w j) = e (prow z _ j); rw [p2 j hj]) g2)
section
variable {X : pm_X} {PR : pm_P} {s : QST} {Q : QPost}
theorem w_isRing (hP : pm_np PR) {d : Nat} (hd : 1 ≤ d) {W : VW} {n z : Nat} {l : Nat → Nat} (hw : wgh s W n) (hn : n ≤ 7) (hl : ∀ j, j < z → l j < n) (hz1 : 1 ≤ z) (hz : z ≤ 7) (h1 : ∀ j, j < z → qE s 113 j = nI (l j)) [hdec : Decidable (rng W l z)] (hk : Q (some (.int (bI (rng W l z)))) s) : qP X PR d 69 [.ref 111, .int (nI z)] s Q := by
  refine qP.of (L := [_, _, _, _]) (by omega) (hP _ rfl) ms_Orders_isRing rfl ?_
  show qW X PR (d - 1) (some .boolean) cd_Orders_isRing 0 _ _ _ _
  have loop : ∀ (c i : Nat) (L3 : Option Value), i + c = z → (∀ j, j < i → gbts W (l j) (l (if j + 1 < z then j + 1 else 0))) → qW X PR (d - 1) (some .boolean) cd_Orders_isRing 1 [some (.ref (111)), some (.int (nI z)), some (.int (nI i)), L3] [] s Q := by
    intro c
    induction c with
    | zero =>
      intro i L3 hi hall
      have e : i = z := by omega
      subst e
      rw [bI_t (show rng W l i from hall)] at hk
      refine qW.blk rfl ?_
      refine qv_iload rfl ?_
      refine qv_iload rfl ?_
      refine qv_icmp_geNt rfl rfl (by omega) (by omega) (by omega) (tgt := 8) rfl ?_
      refine qW.blk rfl ?_
      refine qv_iconst (v := 1) rfl ?_
      refine qv_iret (by first | exact bI_ret | rfl) ?_
      exact hk
    | succ c ih =>
      intro i L3 hi hall
      have hli := hl i (by omega)
      have ho := hw.2.2 _ hli
      have hlt := ov_lt (W := W) (n := n) (x := l i) (by omega)
      have nx : gbts W (l i) (l (if i + 1 < z then i + 1 else 0)) → ∀ L3, qW X PR (d - 1) (some .boolean) cd_Orders_isRing 1 [some (.ref (111)), some (.int (nI z)), some (.int (nI (i + 1))), L3] [] s Q := fun hg L3 => ih (i + 1) L3 (by omega) (fun j hj => by
        by_cases e : j = i
        · subst e; exact hg
        · exact hall j (by omega))
      have no : ¬ gbts W (l i) (l (if i + 1 < z then i + 1 else 0)) → Q (some (.int 0)) s := fun hg => by
        rw [bI_f (show ¬ rng W l z from fun q => hg (q i (by omega)))] at hk
        exact hk
      by_cases hiz : i + 1 < z
      · rw [if_pos hiz] at nx no
        have hl2 := hl (i + 1) hiz
        by_cases hg : gbts W (l i) (l (i + 1))
        · refine qW.blk rfl ?_
          refine qv_iload rfl ?_
          refine qv_iload rfl ?_
          refine qv_icmp_geNf rfl rfl (by omega) (by omega) (by omega) (nx := 2) rfl ?_
          refine qW.blk rfl ?_
          refine qv_iload rfl ?_
          refine qv_iconst (v := 1) rfl ?_
          refine qv_iaddN (q := 1) rfl rfl ?_
          refine qv_iload rfl ?_
          refine qv_icmp_geNf rfl rfl (by omega) (by omega) (by omega) (nx := 3) rfl ?_
          refine qW.blk rfl ?_
          refine qv_aload rfl ?_
          refine qv_gr ly_111 ⟨rfl, rfl, rfl⟩ (by omega) ?_
          refine qv_iload rfl ?_
          refine qv_iconst (v := 1) rfl ?_
          refine qv_iaddN (q := 1) rfl rfl ?_
          refine qv_ia ly_113 rfl (by omega) (by decide) (h1 (i + 1) (by omega)) ?_
          refine qv_goto (tgt := 5) rfl ?_
          refine qW.blk rfl ?_
          refine qv_istore (L' := [_, _, _, _]) rfl ?_
          refine qv_aload rfl ?_
          refine qv_gr ly_111 ⟨rfl, rfl, rfl⟩ (by omega) ?_
          refine qv_aload rfl ?_
          refine qv_gr ly_111 ⟨rfl, rfl, rfl⟩ (by omega) ?_
          refine qv_iload rfl ?_
          refine qv_ia ly_113 rfl (by omega) (by decide) (h1 i (by omega)) ?_
          refine qv_ia ly_112 rfl (by omega) (by decide) (ho) ?_
          refine qv_iload rfl ?_
          refine qv_ishr ?_
          refine qv_iconst (v := 1) rfl ?_
          refine qv_iand ?_
          refine qv_if_ne_t (fun q => (bit_is0 (by omega) (by omega)).mp q ((ov_bit (by omega) (by omega)).mpr ⟨hl2, hg⟩)) (tgt := 7) rfl ?_
          refine qW.blk rfl ?_
          refine qv_iinc (L' := [_, _, _, _]) rfl (nI_succ _).symm rfl ?_
          refine qv_goto (tgt := 1) rfl ?_
          exact nx hg _
        · refine qW.blk rfl ?_
          refine qv_iload rfl ?_
          refine qv_iload rfl ?_
          refine qv_icmp_geNf rfl rfl (by omega) (by omega) (by omega) (nx := 2) rfl ?_
          refine qW.blk rfl ?_
          refine qv_iload rfl ?_
          refine qv_iconst (v := 1) rfl ?_
          refine qv_iaddN (q := 1) rfl rfl ?_
          refine qv_iload rfl ?_
          refine qv_icmp_geNf rfl rfl (by omega) (by omega) (by omega) (nx := 3) rfl ?_
          refine qW.blk rfl ?_
          refine qv_aload rfl ?_
          refine qv_gr ly_111 ⟨rfl, rfl, rfl⟩ (by omega) ?_
          refine qv_iload rfl ?_
          refine qv_iconst (v := 1) rfl ?_
          refine qv_iaddN (q := 1) rfl rfl ?_
          refine qv_ia ly_113 rfl (by omega) (by decide) (h1 (i + 1) (by omega)) ?_
          refine qv_goto (tgt := 5) rfl ?_
          refine qW.blk rfl ?_
          refine qv_istore (L' := [_, _, _, _]) rfl ?_
          refine qv_aload rfl ?_
          refine qv_gr ly_111 ⟨rfl, rfl, rfl⟩ (by omega) ?_
          refine qv_aload rfl ?_
          refine qv_gr ly_111 ⟨rfl, rfl, rfl⟩ (by omega) ?_
          refine qv_iload rfl ?_
          refine qv_ia ly_113 rfl (by omega) (by decide) (h1 i (by omega)) ?_
          refine qv_ia ly_112 rfl (by omega) (by decide) (ho) ?_
          refine qv_iload rfl ?_
          refine qv_ishr ?_
          refine qv_iconst (v := 1) rfl ?_
          refine qv_iand ?_
          refine qv_if_ne_f (fun q => q ((bit_is0 (by omega) (by omega)).mpr (fun z => hg ((ov_bit (by omega) (by omega)).mp z).2))) (nx := 6) rfl ?_
          refine qW.blk rfl ?_
          refine qv_iconst (v := 0) rfl ?_
          refine qv_iret (by first | exact bI_ret | rfl) ?_
          exact no hg
      · rw [if_neg hiz] at nx no
        have hl2 := hl 0 (by omega)
        by_cases hg : gbts W (l i) (l 0)
        · refine qW.blk rfl ?_
          refine qv_iload rfl ?_
          refine qv_iload rfl ?_
          refine qv_icmp_geNf rfl rfl (by omega) (by omega) (by omega) (nx := 2) rfl ?_
          refine qW.blk rfl ?_
          refine qv_iload rfl ?_
          refine qv_iconst (v := 1) rfl ?_
          refine qv_iaddN (q := 1) rfl rfl ?_
          refine qv_iload rfl ?_
          refine qv_icmp_geNt rfl rfl (by omega) (by omega) (by omega) (tgt := 4) rfl ?_
          refine qW.blk rfl ?_
          refine qv_aload rfl ?_
          refine qv_gr ly_111 ⟨rfl, rfl, rfl⟩ (by omega) ?_
          refine qv_iconst (v := 0) rfl ?_
          refine qv_ia (j := 0) ly_113 rfl (by omega) (by decide) (h1 0 (by omega)) ?_
          refine qv_nil (nx := 5) rfl ?_
          refine qW.blk rfl ?_
          refine qv_istore (L' := [_, _, _, _]) rfl ?_
          refine qv_aload rfl ?_
          refine qv_gr ly_111 ⟨rfl, rfl, rfl⟩ (by omega) ?_
          refine qv_aload rfl ?_
          refine qv_gr ly_111 ⟨rfl, rfl, rfl⟩ (by omega) ?_
          refine qv_iload rfl ?_
          refine qv_ia ly_113 rfl (by omega) (by decide) (h1 i (by omega)) ?_
          refine qv_ia ly_112 rfl (by omega) (by decide) (ho) ?_
          refine qv_iload rfl ?_
          refine qv_ishr ?_
          refine qv_iconst (v := 1) rfl ?_
          refine qv_iand ?_
          refine qv_if_ne_t (fun q => (bit_is0 (by omega) (by omega)).mp q ((ov_bit (by omega) (by omega)).mpr ⟨hl2, hg⟩)) (tgt := 7) rfl ?_
          refine qW.blk rfl ?_
          refine qv_iinc (L' := [_, _, _, _]) rfl (nI_succ _).symm rfl ?_
          refine qv_goto (tgt := 1) rfl ?_
          exact nx hg _
        · refine qW.blk rfl ?_
          refine qv_iload rfl ?_
          refine qv_iload rfl ?_
          refine qv_icmp_geNf rfl rfl (by omega) (by omega) (by omega) (nx := 2) rfl ?_
          refine qW.blk rfl ?_
          refine qv_iload rfl ?_
          refine qv_iconst (v := 1) rfl ?_
          refine qv_iaddN (q := 1) rfl rfl ?_
          refine qv_iload rfl ?_
          refine qv_icmp_geNt rfl rfl (by omega) (by omega) (by omega) (tgt := 4) rfl ?_
          refine qW.blk rfl ?_
          refine qv_aload rfl ?_
          refine qv_gr ly_111 ⟨rfl, rfl, rfl⟩ (by omega) ?_
          refine qv_iconst (v := 0) rfl ?_
          refine qv_ia (j := 0) ly_113 rfl (by omega) (by decide) (h1 0 (by omega)) ?_
          refine qv_nil (nx := 5) rfl ?_
          refine qW.blk rfl ?_
          refine qv_istore (L' := [_, _, _, _]) rfl ?_
          refine qv_aload rfl ?_
          refine qv_gr ly_111 ⟨rfl, rfl, rfl⟩ (by omega) ?_
          refine qv_aload rfl ?_
          refine qv_gr ly_111 ⟨rfl, rfl, rfl⟩ (by omega) ?_
          refine qv_iload rfl ?_
          refine qv_ia ly_113 rfl (by omega) (by decide) (h1 i (by omega)) ?_
          refine qv_ia ly_112 rfl (by omega) (by decide) (ho) ?_
          refine qv_iload rfl ?_
          refine qv_ishr ?_
          refine qv_iconst (v := 1) rfl ?_
          refine qv_iand ?_
          refine qv_if_ne_f (fun q => q ((bit_is0 (by omega) (by omega)).mpr (fun z => hg ((ov_bit (by omega) (by omega)).mp z).2))) (nx := 6) rfl ?_
          refine qW.blk rfl ?_
          refine qv_iconst (v := 0) rfl ?_
          refine qv_iret (by first | exact bI_ret | rfl) ?_
          exact no hg
  refine qW.blk rfl ?_
  refine qv_iconst (v := 0) rfl ?_
  refine qv_istore (L' := [_, _, _, _]) rfl ?_
  refine qv_nil (nx := 1) rfl ?_
  exact loop z 0 _ (by omega) (fun j hj => absurd hj (Nat.not_lt_zero _))
/-- the class's ring: i0-th of the least row, or none -/
theorem w_ringAt (hP : pm_np PR) {d : Nat} (hd : 4 ≤ d) {W : VW} {p n i0 T z : Nat} {e : Nat → Nat} {v : Int32} (vk : vok W p) (hw : wgh s W n) (hn : n ≤ 7) (hi7 : i0 < 7) [hdt : ∀ x, Decidable (tops W n x)] (hT : T = bsN (tops W n) n) (hz : z = (spl T 7).length) (he : ∀ j, e j = (spl T 7).getD j 0) (hv : if z < 3 ∨ z ≤ i0 then v = -4 else (∃ k0, k0 < fct z ∧ prow z k0 0 = 0 ∧ rng W (fun j => e (prow z k0 j)) z ∧ (∀ k, k < k0 → k < fct z → prow z k 0 = 0 → ¬ rng W (fun j => e (prow z k j)) z) ∧ v = nI (e (prow z k0 i0))) ∨ ((∀ k, k < fct z → prow z k 0 = 0 → ¬ rng W (fun j => e (prow z k j)) z) ∧ v = -4)) (hk : ∀ s', qfr 113 113 s s' → Q (some (.int v)) s') : qP X PR d 68 [.ref 111, .int (nI i0)] s Q := by
  have hT2 : T < 128 := by rw [hT]; exact Nat.lt_of_lt_of_le (bsN_lt n) (two_lt (by omega))
  obtain ⟨sp1, sp2, sp3⟩ := spl_lt (T := T) 7
  have hz7 : z ≤ 7 := by rw [hz]; exact spl_le 7
  have hen : ∀ j, j < z → e j < n := fun j hj => by
    rw [he j]
    have := (sp1 j (by omega)).2
    rw [hT] at this
    have h7 := (sp1 j (by omega)).1
    rw [hT] at h7
    rw [hT]
    exact ((bsN_bit (by omega) n (by omega)).mp this).1
  have hrs : rsg e z := ⟨fun i j hij hj => by rw [he i, he j]; exact sp2 i j hij (by omega), fun i hi => by have := hen i hi; omega⟩
  obtain ⟨f1, f2⟩ := fct7 z (by omega)
  obtain ⟨hdr⟩ : Nonempty (∀ l : Nat → Nat, Decidable (rng W l z)) := ⟨fun _ => Classical.propDecidable _⟩
  refine qP.of (L := [_, _, _, _]) (by omega) (hP _ rfl) ms_Orders_ringAt rfl ?_
  show qW X PR (d - 1) (some .int) cd_Orders_ringAt 0 _ _ _ _
  have loop : ¬ (z < 3 ∨ z ≤ i0) → ∀ (c r : Nat) (s1 : QST), r + c = fct z → r < fct z → qfr 113 113 s s1 → prow z r 0 = 0 → (∀ k, k < r → k < fct z → prow z k 0 = 0 → ¬ rng W (fun j => e (prow z k j)) z) → (∀ x, x < z → qE s1 113 x = nI (e (prow z r x))) → qW X PR (d - 1) (some .int) cd_Orders_ringAt 4 [some (.ref (111)), some (.int (nI i0)), some (.int (nI z)), some (.int (nI r))] [] s1 Q := by
    intro hzi c
    rw [if_neg hzi] at hv
    induction c with
    | zero => intro r s1 h1 h2; omega
    | succ c ih =>
      intro r s1 hr1 hrf F1 h0 hno g1
      have hw1 : wgh s1 W n := hw.fr F1 (by omega)
      have hro := (prow_ok hz7 hrf).1
      have hl : ∀ j, j < z → e (prow z r j) < n := fun j hj => hen _ (hro.1 j hj)
      by_cases hg : rng W (fun j => e (prow z r j)) z
      · have ev : v = nI (e (prow z r i0)) := by
          rcases hv with ⟨k0, k1, k2, k3, k4, k5⟩ | ⟨q, -⟩
          · have : k0 = r := by
              rcases Nat.lt_trichotomy k0 r with t | t | t
              · exact absurd k3 (hno k0 t k1 k2)
              · exact t
              · exact absurd hg (k4 r t hrf h0)
            rw [k5, this]
          · exact absurd hg (q r hrf h0)
        rw [ev] at hk
        refine qW.blk rfl ?_
        refine qv_iload rfl ?_
        refine qv_iconst (v := 5040) rfl ?_
        refine qv_icmp_geNf (q := 5040) rfl rfl (by omega) (by omega) (by omega) (nx := 5) rfl ?_
        refine qW.blk rfl ?_
        refine qv_aload rfl ?_
        refine qv_iload rfl ?_
        refine qv_virt (ly_111.rcv _) sg_Orders_isRing rfl rfl (w_isRing hP (by omega) hw1 hn hl (by omega) hz7 g1 ?_) 
        refine qv_if_eq_f (bI_ne.mpr (hg)) (nx := 6) rfl ?_
        refine qW.blk rfl ?_
        refine qv_aload rfl ?_
        refine qv_gr ly_111 ⟨rfl, rfl, rfl⟩ (by omega) ?_
        refine qv_iload rfl ?_
        refine qv_ia ly_113 rfl (by omega) (by decide) (g1 i0 (by omega)) ?_
        refine qv_iret (rfl) ?_
        exact hk s1 F1
      · by_cases hf : rfall (prow z r) z 1
        · have ev : v = -4 := by
            rcases hv with ⟨k0, k1, k2, k3, k4, k5⟩ | ⟨-, q⟩
            · exfalso
              have hlast := rkr_fall hz7 hro hf (z - 1) (by omega)
              have e1 := rkr_1 (show 1 ≤ z by omega) h0
              rw [(prow_ok hz7 hrf).2] at e1
              obtain ⟨o1, o2⟩ := prow_ok hz7 k1
              have e2 := rkr_1 (show 1 ≤ z by omega) k2
              have e3 := rkr_lt hz7 o1 (z - 1) (by omega)
              rw [o2] at e2
              rcases Nat.lt_trichotomy k0 r with t | t | t
              · exact hno k0 t k1 k2 k3
              · subst t; exact hg k3
              · omega
            · exact q
          rw [ev] at hk
          refine qW.blk rfl ?_
          refine qv_iload rfl ?_
          refine qv_iconst (v := 5040) rfl ?_
          refine qv_icmp_geNf (q := 5040) rfl rfl (by omega) (by omega) (by omega) (nx := 5) rfl ?_
          refine qW.blk rfl ?_
          refine qv_aload rfl ?_
          refine qv_iload rfl ?_
          refine qv_virt (ly_111.rcv _) sg_Orders_isRing rfl rfl (w_isRing hP (by omega) hw1 hn hl (by omega) hz7 g1 ?_) 
          refine qv_if_eq_t (bI_f (hg)) (tgt := 7) rfl ?_
          refine qW.blk rfl ?_
          refine qv_aload rfl ?_
          refine qv_gr ly_111 ⟨rfl, rfl, rfl⟩ (by omega) ?_
          refine qv_iconst (v := 1) rfl ?_
          refine qv_iload rfl ?_
          refine qv_static sg_Orders_nextRow rfl (w_next_n hP (by omega) (a := 1) ly_113 hz7 (by omega) (by omega) hrf hrs hf g1 ?_) 
          refine qv_if_ne_f (fun q => q rfl) (nx := 8) rfl ?_
          refine qW.blk rfl ?_
          refine qv_iconst (v := (-4)) rfl ?_
          refine qv_iret (rfl) ?_
          exact hk s1 F1
        · refine qW.blk rfl ?_
          refine qv_iload rfl ?_
          refine qv_iconst (v := 5040) rfl ?_
          refine qv_icmp_geNf (q := 5040) rfl rfl (by omega) (by omega) (by omega) (nx := 5) rfl ?_
          refine qW.blk rfl ?_
          refine qv_aload rfl ?_
          refine qv_iload rfl ?_
          refine qv_virt (ly_111.rcv _) sg_Orders_isRing rfl rfl (w_isRing hP (by omega) hw1 hn hl (by omega) hz7 g1 ?_) 
          refine qv_if_eq_t (bI_f (hg)) (tgt := 7) rfl ?_
          refine qW.blk rfl ?_
          refine qv_aload rfl ?_
          refine qv_gr ly_111 ⟨rfl, rfl, rfl⟩ (by omega) ?_
          refine qv_iconst (v := 1) rfl ?_
          refine qv_iload rfl ?_
          refine qv_static sg_Orders_nextRow rfl (w_next_y hP (by omega) (a := 1) ly_113 hz7 hrf hrs hf g1 (fun s2 F2 q1 q2 q3 => ?_)) 
          refine qv_if_ne_t (by decide) (tgt := 9) rfl ?_
          refine qW.blk rfl ?_
          refine qv_iinc (L' := [_, _, _, _]) rfl (nI_succ _).symm rfl ?_
          refine qv_goto (tgt := 4) rfl ?_
          refine ih (r + 1) s2 (by omega) q1 (F1.trans F2) (by rw [q3 0 (by omega) (by omega)]; exact h0) (fun k h1 h2 h3 => ?_) q2
          by_cases ek : k = r
          · subst ek; exact hg
          · exact hno k (by omega) h2 h3
  have tb : qW X PR (d - 1) (some .int) cd_Orders_ringAt 0 [some (.ref (111)), some (.int (nI i0)), none, none] [] s Q := by
    by_cases h3 : z < 3
    · rw [if_pos (Or.inl h3)] at hv
      rw [hv] at hk
      subst hT
      subst hz
      refine qW.blk rfl ?_
      refine qv_aload rfl ?_
      refine qv_virt (ly_111.rcv _) sg_Orders_topBits rfl rfl (w_topBits hP (by omega) hw hn ?_) 
      refine qv_aload rfl ?_
      refine qv_gr ly_111 ⟨rfl, rfl, rfl⟩ (by omega) ?_
      refine qv_static sg_Orders_spread rfl (w_spread hP (by omega) ly_113 hT2 (fun s1 F1 g1 => ?_)) 
      refine qv_istore (L' := [_, _, _, _]) rfl ?_
      refine qv_iload rfl ?_
      refine qv_iconst (v := 3) rfl ?_
      refine qv_icmp_ltNt (q := 3) rfl rfl (by omega) (by omega) (by omega) (tgt := 2) rfl ?_
      refine qW.blk rfl ?_
      refine qv_iconst (v := (-4)) rfl ?_
      refine qv_iret (rfl) ?_
      exact hk s1 F1
    · by_cases h4 : z ≤ i0
      · rw [if_pos (Or.inr h4)] at hv
        rw [hv] at hk
        subst hT
        subst hz
        refine qW.blk rfl ?_
        refine qv_aload rfl ?_
        refine qv_virt (ly_111.rcv _) sg_Orders_topBits rfl rfl (w_topBits hP (by omega) hw hn ?_) 
        refine qv_aload rfl ?_
        refine qv_gr ly_111 ⟨rfl, rfl, rfl⟩ (by omega) ?_
        refine qv_static sg_Orders_spread rfl (w_spread hP (by omega) ly_113 hT2 (fun s1 F1 g1 => ?_)) 
        refine qv_istore (L' := [_, _, _, _]) rfl ?_
        refine qv_iload rfl ?_
        refine qv_iconst (v := 3) rfl ?_
        refine qv_icmp_ltNf (q := 3) rfl rfl (by omega) (by omega) (by omega) (nx := 1) rfl ?_
        refine qW.blk rfl ?_
        refine qv_iload rfl ?_
        refine qv_iload rfl ?_
        refine qv_icmp_ltNf rfl rfl (by omega) (by omega) (by omega) (nx := 2) rfl ?_
        refine qW.blk rfl ?_
        refine qv_iconst (v := (-4)) rfl ?_
        refine qv_iret (rfl) ?_
        exact hk s1 F1
      · have lp := loop (by omega) (fct z) 0
        subst hT
        subst hz
        refine qW.blk rfl ?_
        refine qv_aload rfl ?_
        refine qv_virt (ly_111.rcv _) sg_Orders_topBits rfl rfl (w_topBits hP (by omega) hw hn ?_) 
        refine qv_aload rfl ?_
        refine qv_gr ly_111 ⟨rfl, rfl, rfl⟩ (by omega) ?_
        refine qv_static sg_Orders_spread rfl (w_spread hP (by omega) ly_113 hT2 (fun s1 F1 g1 => ?_)) 
        refine qv_istore (L' := [_, _, _, _]) rfl ?_
        refine qv_iload rfl ?_
        refine qv_iconst (v := 3) rfl ?_
        refine qv_icmp_ltNf (q := 3) rfl rfl (by omega) (by omega) (by omega) (nx := 1) rfl ?_
        refine qW.blk rfl ?_
        refine qv_iload rfl ?_
        refine qv_iload rfl ?_
        refine qv_icmp_ltNt rfl rfl (by omega) (by omega) (by omega) (tgt := 3) rfl ?_
        refine qW.blk rfl ?_
        refine qv_iconst (v := 0) rfl ?_
        refine qv_istore (L' := [_, _, _, _]) rfl ?_
        refine qv_nil (nx := 4) rfl ?_
        have p0 := prow_0 hz7
        exact lp s1 (by omega) f2 F1 (p0 0 (by omega)) (fun k hk => absurd hk (Nat.not_lt_zero _)) (fun x hx => by rw [p0 x hx, he x]; exact g1 x hx)
  exact tb
end
