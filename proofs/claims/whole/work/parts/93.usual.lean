/-! ends by their ranks; digits of a row -/
/-- y goes ahead of x by ranks f -/
def bt (f : Nat → Int32) (y x : Nat) : Prop := f x < f y ∨ (f y = f x ∧ y < x)
theorem bt_irr {f : Nat → Int32} {x : Nat} : ¬ bt f x x := by
  rintro (h | ⟨-, h⟩)
  · exact Int32.lt_irrefl h
  · omega
theorem bt_asy {f : Nat → Int32} {x y : Nat} (h : bt f x y) : ¬ bt f y x := by
  rcases h with h | ⟨h1, h2⟩
  · rintro (g | ⟨g, -⟩)
    · exact Int32.lt_irrefl (Int32.lt_trans h g)
    · rw [g] at h; exact Int32.lt_irrefl h
  · rintro (g | ⟨-, g⟩)
    · rw [h1] at g; exact Int32.lt_irrefl g
    · omega
theorem bt_le {f : Nat → Int32} {x y : Nat} (h : bt f x y) : f y ≤ f x := by
  rcases h with h | ⟨h, -⟩
  · exact Int32.le_of_lt h
  · rw [h]; exact Int32.le_refl _
theorem bt_new {f : Nat → Int32} {e m y : Nat} (h : f e < f m) (hy : y = e ∨ bt f e y) : bt f m y := by
  refine Or.inl ?_
  rcases hy with q | q
  · rw [q]; exact h
  · exact Int32.lt_of_le_of_lt (bt_le q) h
theorem bt_old {f : Nat → Int32} {e m : Nat} (h : ¬ f e < f m) (he : e < m) : bt f e m := by
  have h1 := Int32.not_lt.mp h
  by_cases q : f m = f e
  · exact Or.inr ⟨q.symm, he⟩
  · exact Or.inl (Int32.lt_of_le_of_ne h1 q)
theorem bt_min (f : Nat → Int32) (P : Nat → Prop) : ∀ m, (∀ y, y < m → ¬ P y) ∨ ∃ e, e < m ∧ P e ∧ ∀ y, y < m → P y → y ≠ e → bt f e y := by
  intro m
  induction m with
  | zero => exact Or.inl (fun y h => absurd h (Nat.not_lt_zero _))
  | succ m ih =>
    by_cases hp : P m
    · rcases ih with h | ⟨e, h1, h2, h3⟩
      · refine Or.inr ⟨m, by omega, hp, fun y hy hpy hne => absurd hpy (h y (by omega))⟩
      · by_cases hlt : f e < f m
        · refine Or.inr ⟨m, by omega, hp, fun y hy hpy hne => bt_new hlt ?_⟩
          by_cases q : y = e
          · exact Or.inl q
          · exact Or.inr (h3 y (by omega) hpy q)
        · refine Or.inr ⟨e, by omega, h2, fun y hy hpy hne => ?_⟩
          by_cases q : y = m
          · subst q; exact bt_old hlt h1
          · exact h3 y (by omega) hpy hne
    · rcases ih with h | ⟨e, h1, h2, h3⟩
      · refine Or.inl (fun y hy => ?_)
        by_cases q : y = m
        · subst q; exact hp
        · exact h y (by omega)
      · refine Or.inr ⟨e, by omega, h2, fun y hy hpy hne => ?_⟩
        by_cases q : y = m
        · subst q; exact absurd hpy hp
        · exact h3 y (by omega) hpy hne
/-- the first i by ranks -/
def usI (n : Nat) (f : Nat → Int32) (l : Nat → Nat) (i : Nat) : Prop := rowok n l i ∧ ∀ j, j < i → ∀ x, x < n → (∀ k, k ≤ j → l k ≠ x) → bt f (l j) x
theorem row_miss {n i : Nat} {l : Nat → Nat} (hi : i < n) : ∃ y, y < n ∧ ∀ j, j < i → l j ≠ y := by
  refine Classical.byContradiction fun z => ?_
  have h : ∀ y, ∃ j, y < n → j < i ∧ l j = y := fun y => Classical.byContradiction fun q => z ⟨y, Classical.byContradiction fun r => q ⟨0, fun s => absurd s r⟩, fun j hj e => q ⟨j, fun _ => ⟨hj, e⟩⟩⟩
  obtain ⟨g, hg⟩ := Classical.axiomOfChoice h
  have := pig i n g (fun y hy => (hg y hy).1) (fun y x hyx hx e => by
    have e1 := (hg y (by omega)).2
    have e2 := (hg x hx).2
    have : l (g y) = l (g x) := by rw [e]
    omega)
  omega
theorem row_full {n x : Nat} {l : Nat → Nat} (h : rowok n l n) (hx : x < n) : ∃ j, j < n ∧ l j = x := by
  refine Classical.byContradiction fun z => ?_
  have := pig n (n + 1) (fun j => if j = n then x else l j) (fun j hj => by
    show (if j = n then x else l j) < n
    split
    · exact hx
    · exact h.1 j (by omega)) (fun j k hjk hk => by
    show (if j = n then x else l j) ≠ (if k = n then x else l k)
    rw [if_neg (by omega)]
    split
    · exact fun e => z ⟨j, by omega, e⟩
    · exact h.2 j k hjk (by omega))
  omega
theorem us_ex (n : Nat) (f : Nat → Int32) : ∀ i, i ≤ n → ∃ l, usI n f l i := by
  intro i
  induction i with
  | zero => exact fun _ => ⟨fun _ => 0, ⟨fun j h => absurd h (Nat.not_lt_zero _), fun i j _ h => absurd h (Nat.not_lt_zero _)⟩, fun j h => absurd h (Nat.not_lt_zero _)⟩
  | succ i ih =>
    intro hi
    obtain ⟨l, h1, h2⟩ := ih (by omega)
    obtain ⟨e, e1, e2, e3⟩ : ∃ e, e < n ∧ (∀ j, j < i → l j ≠ e) ∧ ∀ y, y < n → (∀ j, j < i → l j ≠ y) → y ≠ e → bt f e y := by
      rcases bt_min f (fun y => ∀ j, j < i → l j ≠ y) n with h | h
      · obtain ⟨y, y1, y2⟩ := row_miss (l := l) (show i < n by omega)
        exact absurd y2 (h y y1)
      · exact h
    have hL : ∀ j, j < i → (if j = i then e else l j) = l j := fun j hj => if_neg (by omega)
    have hI : (if i = i then e else l i) = e := if_pos rfl
    refine ⟨fun j => if j = i then e else l j, ⟨fun j hj => ?_, fun j k hjk hk => ?_⟩, fun j hj x hx hne => ?_⟩
    · show (if j = i then e else l j) < n
      split
      · exact e1
      · exact h1.1 j (by omega)
    · show (if j = i then e else l j) ≠ (if k = i then e else l k)
      rw [if_neg (by omega)]
      split
      · exact e2 j (by omega)
      · exact h1.2 j k hjk (by omega)
    · show bt f (if j = i then e else l j) x
      by_cases q : j = i
      · rw [if_pos q]
        subst q
        refine e3 x hx (fun k hk => ?_) (fun z => ?_)
        · have : (if k = j then e else l k) ≠ x := hne k (by omega)
          rw [hL k hk] at this
          exact this
        · have : (if j = j then e else l j) ≠ x := hne j (Nat.le_refl _)
          rw [hI] at this
          exact this z.symm
      · rw [if_neg q]
        refine h2 j (by omega) x hx (fun k hk => ?_)
        have : (if k = i then e else l k) ≠ x := hne k hk
        rw [hL k (by omega)] at this
        exact this
theorem bcnt_cg {P R : Nat → Prop} [∀ b, Decidable (P b)] [∀ b, Decidable (R b)] : ∀ n, (∀ y, y < n → (P y ↔ R y)) → bcnt P n = bcnt R n := by
  intro n
  induction n with
  | zero => exact fun _ => rfl
  | succ n ih =>
    intro h
    rw [bcnt_s, bcnt_s, ih (fun y hy => h y (by omega))]
    by_cases hp : P n
    · rw [if_pos hp, if_pos ((h n (by omega)).mp hp)]
    · rw [if_neg hp, if_neg (fun z => hp ((h n (by omega)).mpr z))]
theorem bcnt_add {P R : Nat → Prop} [∀ b, Decidable (P b)] [∀ b, Decidable (R b)] {y0 : Nat} (h0 : ¬ P y0) (h : ∀ y, R y ↔ (P y ∨ y = y0)) : ∀ n, bcnt R n = bcnt P n + if y0 < n then 1 else 0 := by
  intro n
  induction n with
  | zero => rw [if_neg (Nat.not_lt_zero _)]; rfl
  | succ n ih =>
    rw [bcnt_s, bcnt_s, ih]
    by_cases e : n = y0
    · subst e
      rw [if_pos ((h n).mpr (Or.inr rfl)), if_neg h0, if_neg (Nat.lt_irrefl n), if_pos (by omega)]
    · have hr : R n ↔ P n := by rw [h n]; exact ⟨fun z => z.elim id (fun q => absurd q e), Or.inl⟩
      by_cases hp : P n
      · rw [if_pos (hr.mpr hp), if_pos hp]
        by_cases q : y0 < n
        · rw [if_pos q, if_pos (by omega)]
        · rw [if_neg q, if_neg (by omega)]
      · rw [if_neg (fun z => hp (hr.mp z)), if_neg hp]
        by_cases q : y0 < n
        · rw [if_pos q, if_pos (by omega)]
        · rw [if_neg q, if_neg (by omega)]
theorem bcnt_none {P : Nat → Prop} [∀ b, Decidable (P b)] (h : ∀ y, ¬ P y) : ∀ n, bcnt P n = 0 := by
  intro n
  induction n with
  | zero => rfl
  | succ n ih => rw [bcnt_s, ih, if_neg (h n)]
theorem row_cnt {n : Nat} {l : Nat → Nat} [∀ i y, Decidable (∃ j, j < i ∧ l j = y)] : ∀ i, rowok n l i → bcnt (fun y => ∃ j, j < i ∧ l j = y) n = i := by
  intro i
  induction i with
  | zero =>
    intro _
    exact bcnt_none (fun y ⟨j, h, _⟩ => absurd h (Nat.not_lt_zero _)) n
  | succ i ih =>
    intro h
    rw [bcnt_add (P := fun y => ∃ j, j < i ∧ l j = y) (y0 := l i) (fun ⟨j, q1, q2⟩ => h.2 j i q1 (by omega) q2) (fun y => ?_) n, ih ⟨fun j hj => h.1 j (by omega), fun j k hjk hk => h.2 j k hjk (by omega)⟩, if_pos (h.1 i (by omega))]
    constructor
    · rintro ⟨j, q1, q2⟩
      by_cases e : j = i
      · subst e; exact Or.inr q2.symm
      · exact Or.inl ⟨j, by omega, q2⟩
    · rintro (⟨j, q1, q2⟩ | q)
      · exact ⟨j, by omega, q2⟩
      · exact ⟨i, by omega, q.symm⟩
/-- how many go ahead of the i-th -/
theorem us_rank {n i : Nat} {f : Nat → Int32} {l : Nat → Nat} [∀ y x, Decidable (bt f y x)] (h : usI n f l n) (hi : i < n) : bcnt (fun y => bt f y (l i)) n = i := by
  obtain ⟨hdec⟩ : Nonempty (∀ i y, Decidable (∃ j, j < i ∧ l j = y)) := ⟨fun _ _ => Classical.propDecidable _⟩
  have hr : rowok n l i := ⟨fun j hj => h.1.1 j (by omega), fun j k hjk hk => h.1.2 j k hjk (by omega)⟩
  refine Eq.trans (bcnt_cg n (fun y hy => ?_)) (row_cnt i hr)
  constructor
  · intro hb
    refine Classical.byContradiction fun z => ?_
    by_cases e : l i = y
    · rw [e] at hb; exact bt_irr hb
    · refine bt_asy hb (h.2 i hi y hy (fun k hk q => ?_))
      by_cases e2 : k = i
      · subst e2; exact e q
      · exact z ⟨k, by omega, q⟩
  · rintro ⟨j, q1, q2⟩
    subst q2
    exact h.2 j (by omega) (l i) (h.1.1 i hi) (fun k hk => h.1.2 k i (by omega) hi)
/-- the digits of the first i of a row -/
def dig (l : Nat → Nat) : Nat → Nat
  | 0 => 0
  | i + 1 => dig l i + l i * 8 ^ i
def dgt (l : Nat → Nat) (n : Nat) : Nat → Nat
  | 0 => 0
  | k + 1 => dgt l n k * 8 + l (n - 1 - k)
theorem dgt_dig {l : Nat → Nat} {n : Nat} : ∀ k, k ≤ n → dgt l n k * 8 ^ (n - k) + dig l (n - k) = dig l n := by
  intro k
  induction k with
  | zero => intro _; show 0 * _ + dig l (n - 0) = _; rw [Nat.zero_mul, Nat.zero_add, Nat.sub_zero]
  | succ k ih =>
    intro hk
    rw [← ih (by omega)]
    obtain ⟨m, hm⟩ : ∃ m, n - k = m + 1 := ⟨n - k - 1, by omega⟩
    rw [hm, show n - (k + 1) = m by omega]
    show (dgt l n k * 8 + l (n - 1 - k)) * 8 ^ m + dig l m = dgt l n k * 8 ^ (m + 1) + (dig l m + l m * 8 ^ m)
    rw [show n - 1 - k = m by omega, Nat.add_mul, Nat.pow_succ, Nat.mul_assoc, Nat.mul_comm 8 (8 ^ m)]
    omega
theorem dig_lt {l : Nat → Nat} : ∀ n, (∀ j, j < n → l j < 8) → dig l n < 8 ^ n := by
  intro n
  induction n with
  | zero => exact fun _ => Nat.one_pos
  | succ n ih =>
    intro h
    have h1 := ih (fun j hj => h j (by omega))
    have h2 := h n (by omega)
    show dig l n + l n * 8 ^ n < 8 ^ (n + 1)
    rw [Nat.pow_succ]
    have : l n * 8 ^ n ≤ 7 * 8 ^ n := Nat.mul_le_mul_right _ (by omega)
    omega
section
variable {X : pm_X} {PR : pm_P} {s : QST} {Q : QPost}
theorem w_digits (hP : pm_np PR) {d : Nat} (hd : 1 ≤ d) {B n : Nat} {l : Nat → Nat} (hB : qLY B (0, 7, [])) (hn : n ≤ 7) (h1 : ∀ j, j < n → qE s B j = nI (l j)) (hk : Q (some (.int (nI (dig l n)))) s) : qP X PR d 63 [.ref B, .int (nI n)] s Q := by
  refine qP.of (L := [_, _, _, _]) (by omega) (hP _ rfl) ms_Orders_digits rfl ?_
  show qW X PR (d - 1) (some .int) cd_Orders_digits 0 _ _ _ _
  have loop : ∀ (r k : Nat) (v : Int32), r + k = n → v = nI r - 1 → qW X PR (d - 1) (some .int) cd_Orders_digits 1 [some (.ref (B)), some (.int (nI n)), some (.int (nI (dgt l n k))), some (.int (v))] [] s Q := by
    intro r
    induction r with
    | zero =>
      intro k v hk1 hv
      subst hv
      have e : k = n := by omega
      subst e
      refine qW.blk rfl ?_
      refine qv_iload rfl ?_
      refine qv_if_lt_t (by decide) (tgt := 3) rfl ?_
      refine qW.blk rfl ?_
      refine qv_iload rfl ?_
      refine qv_iret (rfl) ?_
      have := dgt_dig (l := l) (n := k) k (Nat.le_refl _)
      rw [Nat.sub_self] at this
      have e : dgt l k k = dig l k := by
        rw [← this]; show dgt l k k = dgt l k k * 1 + 0; omega
      rw [e]
      exact hk
    | succ r ih =>
      intro k v hk1 hv
      rw [nI_dec] at hv
      subst hv
      have er : n - 1 - k = r := by omega
      have nx := ih (k + 1) (nI r - 1) (by omega) rfl
      have e : dgt l n (k + 1) = dgt l n k * 8 + l r := by show dgt l n k * 8 + l (n - 1 - k) = _; rw [er]
      rw [e] at nx
      refine qW.blk rfl ?_
      refine qv_iload rfl ?_
      refine qv_if_lt_f (Int32.not_lt.mpr (nI_pos' (by omega))) (nx := 2) rfl ?_
      refine qW.blk rfl ?_
      refine qv_iload rfl ?_
      refine qv_iconst (v := 8) rfl ?_
      refine qv_imulN (q := 8) rfl rfl ?_
      refine qv_aload rfl ?_
      refine qv_iload rfl ?_
      refine qv_ia hB (rfl) (by omega) (by decide) (h1 r (by omega)) ?_
      refine qv_iaddN rfl rfl ?_
      refine qv_istore (L' := [_, _, _, _]) rfl ?_
      refine qv_iinc (L' := [_, _, _, _]) rfl (dec_eq _) rfl ?_
      refine qv_goto (tgt := 1) rfl ?_
      exact nx
  have nx := loop n 0 (nI n - 1) (by omega) rfl
  refine qW.blk rfl ?_
  refine qv_iconst (v := 0) rfl ?_
  refine qv_istore (L' := [_, _, _, _]) rfl ?_
  refine qv_iload rfl ?_
  refine qv_iconst (v := 1) rfl ?_
  refine qv_isub ?_
  refine qv_istore (L' := [_, _, _, _]) rfl ?_
  refine qv_nil (nx := 1) rfl ?_
  exact nx
end
