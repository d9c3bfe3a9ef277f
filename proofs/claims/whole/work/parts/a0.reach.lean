/-! which ENDS some row brings: plain, those that reach all; deep, the peaks of chains that none beats whole -/
theorem RS_rf {W : VW} {n x : Nat} : RS W n x x := fun _ _ h _ => h
theorem RS_step {W : VW} {n a x y : Nat} (ha : a < n) (hx : x < n) (hg : gbts W a x) (h : RS W n x y) : RS W n a y := fun T h1 h2 h3 => h T h1 (h3 a x ha hx h2 hg) h3
theorem RS_one {W : VW} {n a x : Nat} (ha : a < n) (hx : x < n) (hg : gbts W a x) : RS W n a x := RS_step ha hx hg RS_rf
theorem plc_in {W : VW} {l : Nat → Nat} : ∀ i, ∃ j, j ≤ i ∧ plc W l i = l j := by
  intro i
  induction i with
  | zero => exact ⟨0, Nat.le_refl _, rfl⟩
  | succ i ih =>
    obtain ⟨j, h1, h2⟩ := ih
    rcases gstd_or (W := W) (x := plc W l i) (y := l (i + 1)) with e | e
    · exact ⟨j, by omega, by show gstd W (plc W l i) (l (i + 1)) = l j; rw [e, h2]⟩
    · exact ⟨i + 1, Nat.le_refl _, e⟩
theorem plc_rs {W : VW} {p n z : Nat} {l : Nat → Nat} (v : vok W p) (h : rowok n l z) : ∀ i, i < z → ∀ j, j ≤ i → RS W n (plc W l i) (l j) := by
  intro i
  induction i with
  | zero =>
    intro _ j hj
    have : j = 0 := by omega
    subst this
    exact RS_rf
  | succ i ih =>
    intro hi j hj
    have hi1 := h.1 (i + 1) hi
    have hp := plc_lt (W := W) h.1 i (by omega)
    obtain ⟨k, k1, k2⟩ := plc_in (W := W) (l := l) i
    have hne : plc W l i ≠ l (i + 1) := by rw [k2]; exact h.2 k (i + 1) (by omega) hi
    by_cases hb : gbts W (l (i + 1)) (plc W l i)
    · have e : plc W l (i + 1) = l (i + 1) := if_pos hb
      rw [e]
      by_cases q : j = i + 1
      · subst q; exact RS_rf
      · exact RS_step hi1 hp hb (ih (by omega) j (by omega))
    · have e : plc W l (i + 1) = plc W l i := if_neg hb
      rw [e]
      by_cases q : j = i + 1
      · subst q; exact RS_one hp hi1 ((gbts_tot v hne).mpr hb)
      · exact ih (by omega) j (by omega)
theorem upd_row {n i b : Nat} {v : Nat → Nat} (h : rowok n v i) (hb : b < n) (hn : ∀ j, j < i → v j ≠ b) : rowok n (fun j => if j = i then b else v j) (i + 1) := by
  refine ⟨fun j hj => ?_, fun j k hjk hk => ?_⟩
  · show (if j = i then b else v j) < n
    split
    · exact hb
    · exact h.1 j (by omega)
  · show (if j = i then b else v j) ≠ (if k = i then b else v k)
    rw [if_neg (by omega)]
    split
    · exact hn j (by omega)
    · exact h.2 j k hjk (by omega)
/-- from an END that reaches all: a row in which each is beaten by one ahead of it -/
theorem bfs_ex {W : VW} {n e : Nat} (hn : n ≤ 7) (he : e < n) (ht : tops W n e) : ∀ i, 1 ≤ i → i ≤ n → ∃ v, rowok n v i ∧ v 0 = e ∧ ∀ k, 1 ≤ k → k < i → ∃ j, j < k ∧ gbts W (v j) (v k) := by
  intro i
  induction i with
  | zero => intro h; omega
  | succ i ih =>
    intro _ hi
    by_cases h0 : i = 0
    · subst h0
      exact ⟨fun _ => e, ⟨fun _ _ => he, fun a b h1 h2 => by omega⟩, rfl, fun k h1 h2 => by omega⟩
    · obtain ⟨v, v1, v2, v3⟩ := ih (by omega) (by omega)
      obtain ⟨m1, m2⟩ := met_btn (n := n) (l := v) hn i v1.1
      have hne : ¬ clo W n (met v i) := fun hc => by
        obtain ⟨y, y1, y2⟩ := row_miss (l := v) (show i < n by omega)
        have := ht y y1 (met v i) m1 ((m2 e).mpr ⟨0, by omega, v2⟩) hc
        obtain ⟨j, j1, j2⟩ := (m2 y).mp this
        exact y2 j j1 j2
      obtain ⟨a, b, hb, ha, hg, hnb⟩ : ∃ a b, b < n ∧ btn (met v i) a ∧ gbts W a b ∧ ¬ btn (met v i) b := Classical.byContradiction fun q => hne (fun a b _ hb h1 h2 => Classical.byContradiction fun r => q ⟨a, b, hb, h1, h2, r⟩)
      obtain ⟨j, j1, j2⟩ := (m2 a).mp ha
      have hL : ∀ k, k < i → (if k = i then b else v k) = v k := fun k hk => if_neg (by omega)
      refine ⟨fun j => if j = i then b else v j, upd_row v1 hb (fun k hk e => hnb ((m2 b).mpr ⟨k, hk, e⟩)), ?_, fun k h1 h2 => ?_⟩
      · show (if 0 = i then b else v 0) = e
        rw [if_neg (by omega)]; exact v2
      · by_cases q : k = i
        · subst q
          refine ⟨j, j1, ?_⟩
          show gbts W (if j = k then b else v j) (if k = k then b else v k)
          rw [if_neg (by omega), if_pos rfl, j2]
          exact hg
        · obtain ⟨j', j1', j2'⟩ := v3 k h1 (by omega)
          refine ⟨j', j1', ?_⟩
          show gbts W (if j' = i then b else v j') (if k = i then b else v k)
          rw [if_neg (by omega), if_neg q]
          exact j2'
theorem rev_row {n z : Nat} {v : Nat → Nat} (h : rowok n v z) : rowok n (fun x => v (z - 1 - x)) z := by
  refine ⟨fun j hj => h.1 _ (by omega), fun i j hij hj e => ?_⟩
  exact h.2 (z - 1 - j) (z - 1 - i) (by omega) (by omega) e.symm
theorem plain_reach {W : VW} {p n e : Nat} (v : vok W p) (hn1 : 1 ≤ n) (hn : n ≤ 7) (he : e < n) : (∃ l, rowok n l n ∧ plc W l (n - 1) = e) ↔ tops W n e := by
  constructor
  · rintro ⟨l, h1, h2⟩ y hy
    obtain ⟨j, j1, j2⟩ := row_full h1 hy
    rw [← j2, ← h2]
    exact plc_rs v h1 (n - 1) (by omega) j (by omega)
  · intro ht
    obtain ⟨q, q1, q2, q3⟩ := bfs_ex hn he ht n hn1 (Nat.le_refl _)
    refine ⟨_, rev_row q1, ?_⟩
    have inv : ∀ i, i < n → plc W (fun x => q (n - 1 - x)) i = e ∨ ∃ j, j < n - 1 - i ∧ gbts W (q j) (plc W (fun x => q (n - 1 - x)) i) := by
      intro i
      induction i with
      | zero =>
        intro _
        by_cases h0 : n - 1 = 0
        · left; show q (n - 1 - 0) = e; rw [h0]; exact q2
        · right; exact q3 (n - 1) (by omega) (by omega)
      | succ i ih =>
        intro hi
        by_cases hb : gbts W (q (n - 1 - (i + 1))) (plc W (fun x => q (n - 1 - x)) i)
        · have e1 : plc W (fun x => q (n - 1 - x)) (i + 1) = q (n - 1 - (i + 1)) := if_pos hb
          rw [e1]
          by_cases h0 : n - 1 - (i + 1) = 0
          · left; rw [h0]; exact q2
          · right; exact q3 _ (by omega) (by omega)
        · have e1 : plc W (fun x => q (n - 1 - x)) (i + 1) = plc W (fun x => q (n - 1 - x)) i := if_neg hb
          rw [e1]
          rcases ih (by omega) with h | ⟨j, j1, j2⟩
          · exact Or.inl h
          · refine Or.inr ⟨j, ?_, j2⟩
            by_cases ej : j = n - 1 - (i + 1)
            · rw [ej] at j2; exact absurd j2 hb
            · omega
    rcases inv (n - 1) (by omega) with h | ⟨j, j1, -⟩
    · exact h
    · omega
/-! chains -/
def chn (W : VW) (n : Nat) : Nat → Nat → Nat → Prop
  | 0, _, _ => False
  | f + 1, T, x => x < n ∧ btn T x ∧ (∀ y, btn T y → y ≠ x → y < n ∧ gbts W x y) ∧ (T = 2 ^ x ∨ ∃ y, chn W n f (T - 2 ^ x) y)
/-- T is a chain with peak x -/
def CHN (W : VW) (n T x : Nat) : Prop := ∃ f, chn W n f T x
theorem CHN_s {W : VW} {n T x : Nat} : CHN W n T x ↔ (x < n ∧ btn T x ∧ (∀ y, btn T y → y ≠ x → y < n ∧ gbts W x y) ∧ (T = 2 ^ x ∨ ∃ y, CHN W n (T - 2 ^ x) y)) := by
  constructor
  · rintro ⟨f, h⟩
    cases f with
    | zero => exact absurd h (fun z => z)
    | succ f =>
      obtain ⟨h1, h2, h3, h4⟩ := h
      refine ⟨h1, h2, h3, ?_⟩
      rcases h4 with h4 | ⟨y, h4⟩
      · exact Or.inl h4
      · exact Or.inr ⟨y, f, h4⟩
  · rintro ⟨h1, h2, h3, h4⟩
    rcases h4 with h4 | ⟨y, f, h4⟩
    · exact ⟨1, h1, h2, h3, Or.inl h4⟩
    · exact ⟨f + 1, h1, h2, h3, Or.inr ⟨y, h4⟩⟩
theorem CHN_one {W : VW} {p n T x y : Nat} (v : vok W p) (h1 : CHN W n T x) (h2 : CHN W n T y) : x = y := by
  obtain ⟨a1, a2, a3, -⟩ := CHN_s.mp h1
  obtain ⟨b1, b2, b3, -⟩ := CHN_s.mp h2
  refine Classical.byContradiction fun ne => ?_
  exact (gbts_tot v ne).mp (a3 y b2 (Ne.symm ne)).2 (b3 x a2 ne).2
theorem rmb7 : ∀ T, T < 128 → ∀ x, x < 7 → (btn T x → 2 ^ x ≤ T ∧ (T - 2 ^ x) ||| 2 ^ x = T ∧ nI T &&& ((1 <<< (nI x &&& 31)) ^^^ -1) = nI (T - 2 ^ x)) ∧ (¬ btn T x → (T ||| 2 ^ x) - 2 ^ x = T ∧ nI T &&& ((1 <<< (nI x &&& 31)) ^^^ -1) = nI T) := by decide +kernel
theorem rmb_btn (T : Nat) (hT : T < 128) (x : Nat) (hx : x < 7) (hb : btn T x) (y : Nat) (hy : y < 7) : btn (T - 2 ^ x) y ↔ (btn T y ∧ y ≠ x) := by
  have := clr_bit x hx T hT y hy
  unfold clr at this
  rw [if_pos hb] at this
  exact this
theorem btn7 {T y : Nat} (hT : T < 128) (h : btn T y) : y < 7 := by
  refine Classical.byContradiction fun z => ?_
  have h2 : (128 : Nat) ≤ 2 ^ y := Nat.le_trans (by decide : (128 : Nat) ≤ 2 ^ 7) (Nat.pow_le_pow_right (by omega) (by omega))
  have := Nat.testBit_lt_two_pow (Nat.lt_of_lt_of_le hT h2)
  rw [btn_tb, this] at h
  cases h
theorem pow_btn {x y : Nat} : btn (2 ^ x) y ↔ x = y := by rw [btn_tb, Nat.testBit_two_pow, decide_eq_true_iff]
theorem dpr_chn {W : VW} {n z : Nat} {l : Nat → Nat} (hn : n ≤ 7) (h : rowok n l z) : ∀ k, k ≤ z → (k = 0 ∧ (dpr W n l z k).2 = 0) ∨ CHN W n (dpr W n l z k).2 (dpr W n l z k).1 := by
  intro k
  induction k with
  | zero => exact fun _ => Or.inl ⟨rfl, rfl⟩
  | succ k ih =>
    intro hk
    obtain ⟨i1, i2, i3⟩ := dpr_inv (W := W) hn h.1 k (by omega)
    have hl := h.1 (z - 1 - k) (by omega)
    have hnb : ¬ btn (dpr W n l z k).2 (l (z - 1 - k)) := fun q => by
      obtain ⟨j, j1, j2, j3⟩ := i2 _ q
      exact h.2 (z - 1 - k) j (by omega) j2 j3.symm
    rw [dpr_s]
    by_cases hc : ov W n (l (z - 1 - k)) &&& (dpr W n l z k).2 = (dpr W n l z k).2
    · rw [if_pos hc]
      refine Or.inr (CHN_s.mpr ⟨hl, btn_or.mpr (Or.inr rfl), fun y hy hne => ?_, ?_⟩)
      · rcases btn_or.mp hy with q | q
        · have hy7 := btn7 i1 q
          exact (ov_bit (by omega) (by omega)).mp (sub_and.mp hc y q)
        · exact absurd q.symm hne
      · rcases ih (by omega) with ⟨q1, q2⟩ | q
        · left
          show (dpr W n l z k).2 ||| 2 ^ l (z - 1 - k) = _
          rw [q2, Nat.zero_or]
        · right
          refine ⟨(dpr W n l z k).1, ?_⟩
          rw [((rmb7 _ i1 _ (show l (z - 1 - k) < 7 by omega)).2 hnb).1]
          exact q
    · rw [if_neg hc]
      rcases ih (by omega) with ⟨q1, q2⟩ | q
      · exfalso; rw [q2] at hc; exact hc (Nat.and_zero _)
      · exact Or.inr q
theorem dpr_sub {W : VW} {n z : Nat} {l : Nat → Nat} {y : Nat} : ∀ c k, btn (dpr W n l z k).2 y → btn (dpr W n l z (k + c)).2 y := by
  intro c
  induction c with
  | zero => exact fun _ h => h
  | succ c ih =>
    intro k h
    have := ih k h
    show btn (dpr W n l z (k + c + 1)).2 y
    rw [dpr_s]
    split
    · exact btn_or.mpr (Or.inl this)
    · exact this
theorem row_ext {n i : Nat} {q : Nat → Nat} (h : rowok n q i) : ∀ c, i + c ≤ n → ∃ q', rowok n q' (i + c) ∧ ∀ j, j < i → q' j = q j := by
  intro c
  induction c with
  | zero => exact fun _ => ⟨q, h, fun _ _ => rfl⟩
  | succ c ih =>
    intro hc
    obtain ⟨q', h1, h2⟩ := ih (by omega)
    obtain ⟨y, y1, y2⟩ := row_miss (l := q') (show i + c < n by omega)
    refine ⟨_, upd_row h1 y1 y2, fun j hj => ?_⟩
    show (if j = i + c then y else q' j) = _
    rw [if_neg (by omega)]
    exact h2 j hj
theorem chn_seq {W : VW} {n : Nat} (hn : n ≤ 7) : ∀ f T x, T < 128 → chn W n f T x → ∃ m q, rowok n q (m + 1) ∧ (∀ i j, i < j → j ≤ m → gbts W (q j) (q i)) ∧ met q (m + 1) = T ∧ q m = x := by
  intro f
  induction f with
  | zero => intro T x _ h; exact absurd h (fun z => z)
  | succ f ih =>
    intro T x hT h
    obtain ⟨h1, h2, h3, h4⟩ := h
    rcases h4 with h4 | ⟨y, h4⟩
    · refine ⟨0, fun _ => x, ⟨fun _ _ => h1, fun a b h1 h2 => by omega⟩, fun i j h1 h2 => by omega, ?_, rfl⟩
      show 0 ||| 2 ^ x = T
      rw [Nat.zero_or, h4]
    · obtain ⟨r1, r2, r3⟩ := (rmb7 T hT x (by omega)).1 h2
      have rb := rmb_btn T hT x (by omega) h2
      obtain ⟨m, q, q1, q2, q3, q4⟩ := ih (T - 2 ^ x) y (Nat.lt_of_le_of_lt (Nat.sub_le _ _) hT) h4
      have mb := (met_btn (n := n) (l := q) hn (m + 1) q1.1).2
      have hq : ∀ j, j < m + 1 → q j ≠ x ∧ gbts W x (q j) := fun j hj => by
        have hb : btn (T - 2 ^ x) (q j) := by rw [← q3]; exact (mb _).mpr ⟨j, hj, rfl⟩
        have hb' := (rb _ (by have := q1.1 j hj; omega)).mp hb
        exact ⟨hb'.2, (h3 _ hb'.1 hb'.2).2⟩
      have hL : ∀ k, k < m + 1 → (if k = m + 1 then x else q k) = q k := fun k hk => if_neg (by omega)
      refine ⟨m + 1, fun j => if j = m + 1 then x else q j, upd_row q1 h1 (fun j hj => (hq j hj).1), fun i j hij hj => ?_, ?_, if_pos rfl⟩
      · show gbts W (if j = m + 1 then x else q j) (if i = m + 1 then x else q i)
        rw [if_neg (show ¬ i = m + 1 by omega)]
        by_cases e : j = m + 1
        · rw [if_pos e]; exact (hq i (by omega)).2
        · rw [if_neg e]; exact q2 i j hij (by omega)
      · show met (fun j => if j = m + 1 then x else q j) (m + 1) ||| 2 ^ (if m + 1 = m + 1 then x else q (m + 1)) = T
        rw [met_cg (m + 1) hL, if_pos rfl, q3, r2]
/-- e is the peak of a chain that no END beats whole -/
def dch (W : VW) (n e : Nat) : Prop := ∃ T, T < 2 ^ n ∧ ¬ btw W n T ∧ CHN W n T e
theorem deep_reach {W : VW} {p n e : Nat} (v : vok W p) (hn1 : 1 ≤ n) (hn : n ≤ 7) (he : e < n) : (∃ l, rowok n l n ∧ (dpr W n l n n).1 = e) ↔ dch W n e := by
  constructor
  · rintro ⟨l, h1, h2⟩
    obtain ⟨i1, i2, i3⟩ := dpr_inv (W := W) hn h1.1 n (Nat.le_refl _)
    refine ⟨(dpr W n l n n).2, ?_, ?_, ?_⟩
    · obtain ⟨a1, a2⟩ := all_bit n (by omega)
      have : (dpr W n l n n).2 ||| (2 ^ n - 1) = 2 ^ n - 1 := by
        refine btn_ext (Nat.or_lt_two_pow (n := 7) i1 a2) a2 (fun y hy => ?_)
        rw [btn_or2]
        refine ⟨fun q => q.elim (fun q => ?_) (fun q => q), Or.inr⟩
        obtain ⟨j, j1, j2, j3⟩ := i2 y q
        exact (a1 y (by omega)).mpr (by have := h1.1 j j2; omega)
      have h3 : (dpr W n l n n).2 ≤ (dpr W n l n n).2 ||| (2 ^ n - 1) := Nat.left_le_or
      have : 0 < 2 ^ n := Nat.pow_pos (by omega)
      omega
    · rintro ⟨z, z1, z2⟩
      obtain ⟨j, j1, j2⟩ := row_full h1 z1
      have hsub := sub_and.mp z2
      have hz : ov W n (l (n - 1 - (n - 1 - j))) &&& (dpr W n l n (n - 1 - j)).2 = (dpr W n l n (n - 1 - j)).2 := by
        refine sub_and.mpr (fun y hy => ?_)
        rw [show n - 1 - (n - 1 - j) = j by omega, j2]
        refine hsub y ?_
        have := dpr_sub (W := W) (n := n) (z := n) (l := l) (y := y) (j + 1) (n - 1 - j) hy
        rw [show n - 1 - j + (j + 1) = n by omega] at this
        exact this
      have hin : btn (dpr W n l n (n - 1 - j + 1)).2 z := by
        rw [dpr_s, if_pos hz]
        refine btn_or.mpr (Or.inr ?_)
        rw [show n - 1 - (n - 1 - j) = j by omega, j2]
      have := dpr_sub (W := W) (n := n) (z := n) (l := l) (y := z) j (n - 1 - j + 1) hin
      rw [show n - 1 - j + 1 + j = n by omega] at this
      have := ((ov_bit (by omega) (by omega)).mp (hsub z this)).2
      exact gbts_ne this rfl
    · rcases dpr_chn (W := W) hn h1 n (Nat.le_refl _) with ⟨q, _⟩ | q
      · omega
      · rw [h2] at q; exact q
  · rintro ⟨T, hT, hb, f, hc⟩
    have hT2 : T < 128 := Nat.lt_of_lt_of_le hT (two_lt (by omega))
    obtain ⟨m, q, q1, q2, q3, q4⟩ := chn_seq hn f T e hT2 hc
    have hmn : m + 1 ≤ n := pig n (m + 1) q q1.1 q1.2
    obtain ⟨q', r1, r2⟩ := row_ext q1 (n - (m + 1)) (by omega)
    rw [show m + 1 + (n - (m + 1)) = n by omega] at r1
    refine ⟨_, rev_row r1, ?_⟩
    have el : ∀ k, k < n → q' (n - 1 - (n - 1 - k)) = q' k := fun k hk => by
      rw [show n - 1 - (n - 1 - k) = k by omega]
    have up : ∀ k, k ≤ m → dpr W n (fun x => q' (n - 1 - x)) n (k + 1) = (q k, met q (k + 1)) := by
      intro k
      induction k with
      | zero =>
        intro _
        rw [dpr_s, el 0 (by omega), r2 0 (by omega)]
        show (if ov W n (q 0) &&& 0 = 0 then (q 0, 0 ||| 2 ^ q 0) else (0, 0)) = _
        rw [if_pos (Nat.and_zero _)]
        rfl
      | succ k ih =>
        intro hk
        rw [dpr_s, el (k + 1) (by omega), r2 (k + 1) (by omega), ih (by omega), if_pos]
        · rfl
        · show ov W n (q (k + 1)) &&& met q (k + 1) = met q (k + 1)
          refine sub_and.mpr (fun y hy => ?_)
          obtain ⟨j, j1, j2⟩ := ((met_btn (n := n) (l := q) hn (k + 1) (fun j hj => q1.1 j (by omega))).2 y).mp hy
          have := q1.1 j (by omega)
          exact (ov_bit (by omega) (by omega)).mpr ⟨by omega, by rw [← j2]; exact q2 j (k + 1) j1 (by omega)⟩
    have st : ∀ c, m + 1 + c ≤ n → dpr W n (fun x => q' (n - 1 - x)) n (m + 1 + c) = (e, T) := by
      intro c
      induction c with
      | zero =>
        intro _
        show dpr W n (fun x => q' (n - 1 - x)) n (m + 1) = (e, T)
        rw [up m (Nat.le_refl _), q4, q3]
      | succ c ih =>
        intro hc
        show dpr W n (fun x => q' (n - 1 - x)) n (m + 1 + c + 1) = (e, T)
        rw [dpr_s, ih (by omega), el (m + 1 + c) (by omega), if_neg]
        intro z
        exact hb ⟨q' (m + 1 + c), r1.1 _ (by omega), z⟩
    have := st (n - (m + 1)) (by omega)
    rw [show m + 1 + (n - (m + 1)) = n by omega] at this
    rw [this]
/-- the ENDS that come of some row -/
def rch (W : VW) (n g e : Nat) : Prop := if g = 0 then tops W n e else dch W n e
theorem rch_iff {W : VW} {p n g e : Nat} (v : vok W p) (hn1 : 1 ≤ n) (hn : n ≤ 7) (he : e < n) : (∃ l, rowok n l n ∧ cmo W n l n g = e) ↔ rch W n g e := by
  unfold rch cmo
  by_cases h : g = 0
  · simp only [if_pos h]
    exact plain_reach v hn1 hn he
  · simp only [if_neg h]
    exact deep_reach v hn1 hn he
theorem plc_cg {W : VW} {l l' : Nat → Nat} : ∀ i, (∀ j, j ≤ i → l j = l' j) → plc W l i = plc W l' i := by
  intro i
  induction i with
  | zero => intro h; exact h 0 (Nat.le_refl _)
  | succ i ih =>
    intro h
    show gstd W (plc W l i) (l (i + 1)) = gstd W (plc W l' i) (l' (i + 1))
    rw [ih (fun j hj => h j (by omega)), h (i + 1) (Nat.le_refl _)]
theorem dpr_cg {W : VW} {n z : Nat} {l l' : Nat → Nat} (h : ∀ j, j < z → l j = l' j) : ∀ k, k ≤ z → dpr W n l z k = dpr W n l' z k := by
  intro k
  induction k with
  | zero => intro _; rfl
  | succ k ih => intro hk; rw [dpr_s, dpr_s, ih (by omega), h (z - 1 - k) (by omega)]
theorem cmo_cg {W : VW} {n z g : Nat} {l l' : Nat → Nat} (hz : 1 ≤ z) (h : ∀ j, j < z → l j = l' j) : cmo W n l z g = cmo W n l' z g := by
  unfold cmo
  rw [plc_cg (z - 1) (fun j hj => h j (by omega)), dpr_cg h z (Nat.le_refl _)]
theorem cmo_lt {W : VW} {n z g : Nat} {l : Nat → Nat} (hn : n ≤ 7) (hz : 1 ≤ z) (h : rowok n l z) : cmo W n l z g < n := by
  unfold cmo
  split
  · exact plc_lt h.1 (z - 1) (by omega)
  · rcases (dpr_inv (W := W) hn h.1 z (Nat.le_refl _)).2.2 with q | q
    · omega
    · exact q.2
/-- by the k-th rows -/
theorem rch_k {W : VW} {p n g e : Nat} (v : vok W p) (hn1 : 1 ≤ n) (hn : n ≤ 7) (he : e < n) : (∃ k, k < fct n ∧ cmo W n (prow n k) n g = e) ↔ rch W n g e := by
  rw [← rch_iff v hn1 hn he]
  constructor
  · rintro ⟨k, h1, h2⟩
    exact ⟨prow n k, (prow_ok hn h1).1, h2⟩
  · rintro ⟨l, h1, h2⟩
    obtain ⟨a, b⟩ := prow_of hn h1
    exact ⟨rkr l n n, a, by rw [cmo_cg hn1 b]; exact h2⟩
