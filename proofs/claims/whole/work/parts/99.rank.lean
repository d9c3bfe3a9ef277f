/-! ranks of rows; the row behind a row has the next rank -/
theorem met_cg {p q : Nat → Nat} : ∀ i, (∀ j, j < i → p j = q j) → met p i = met q i := by
  intro i
  induction i with
  | zero => intro _; rfl
  | succ i ih =>
    intro h
    show met p i ||| 2 ^ p i = met q i ||| 2 ^ q i
    rw [ih (fun j hj => h j (by omega)), h i (by omega)]
theorem unu_s {u y : Nat} : unu u (y + 1) = unu u y + (if btn u y then 0 else 1) := rfl
theorem unu_y {u y : Nat} (h : btn u y) : unu u (y + 1) = unu u y := by rw [unu_s, if_pos h, Nat.add_zero]
theorem unu_n {u y : Nat} (h : ¬ btn u y) : unu u (y + 1) = unu u y + 1 := by rw [unu_s, if_neg h]
theorem unu_or {u c : Nat} (hc : ¬ btn u c) : ∀ y, unu (u ||| 2 ^ c) y + (if c < y then 1 else 0) = unu u y := by
  intro y
  induction y with
  | zero => rw [if_neg (Nat.not_lt_zero _)]; rfl
  | succ y ih =>
    by_cases e : c = y
    · subst e
      rw [if_neg (Nat.lt_irrefl _)] at ih
      rw [if_pos (Nat.lt_succ_self _), unu_y (btn_or.mpr (Or.inr rfl)), unu_n hc]
      omega
    · by_cases hb : btn u y
      · rw [unu_y hb, unu_y (btn_or.mpr (Or.inl hb)), ← ih]
        by_cases q : c < y
        · rw [if_pos q, if_pos (by omega)]
        · rw [if_neg q, if_neg (by omega)]
      · have hb2 : ¬ btn (u ||| 2 ^ c) y := fun z => (btn_or.mp z).elim hb e
        rw [unu_n hb, unu_n hb2, ← ih]
        by_cases q : c < y
        · rw [if_pos q, if_pos (by omega)]
        · rw [if_neg q, if_neg (by omega)]
theorem unu_lef {u x y : Nat} (h : x ≤ y) : unu u x ≤ unu u y := by
  obtain ⟨k, rfl⟩ : ∃ k, y = x + k := ⟨y - x, by omega⟩
  exact unu_mono k
theorem unu_lt {u x y : Nat} (hx : ¬ btn u x) (h : x < y) : unu u x < unu u y := by
  have := unu_lef (u := u) (show x + 1 ≤ y from h)
  rw [unu_n hx] at this
  omega
theorem unu_all {u x : Nat} : ∀ k, (∀ y, x ≤ y → y < x + k → btn u y) → unu u (x + k) = unu u x := by
  intro k
  induction k with
  | zero => intro _; rfl
  | succ k ih =>
    intro h
    show unu u (x + k + 1) = _
    rw [unu_y (h (x + k) (by omega) (by omega)), ih (fun y h1 h2 => h y h1 (by omega))]
theorem unu_al {u x y : Nat} (hxy : x ≤ y) (h : ∀ v, x ≤ v → v < y → btn u v) : unu u y = unu u x := by
  obtain ⟨k, rfl⟩ : ∃ k, y = x + k := ⟨y - x, by omega⟩
  exact unu_all k h
theorem unu_z : ∀ y, unu 0 y = y := by
  intro y
  induction y with
  | zero => rfl
  | succ y ih => rw [unu_n (btn0 y), ih]
theorem met_nb {z i : Nat} {p : Nat → Nat} (hz : z ≤ 7) (h : rowok z p z) (hi : i < z) : ¬ btn (met p i) (p i) := fun q => by
  obtain ⟨j, a, b⟩ := ((met_btn (n := z) (l := p) hz i (fun j hj => h.1 j (by omega))).2 _).mp q
  exact h.2 j i a hi b
theorem met_in {z i x : Nat} {p : Nat → Nat} (hz : z ≤ 7) (h : rowok z p z) (hi : i ≤ z) : btn (met p i) x ↔ ∃ j, j < i ∧ p j = x := (met_btn (n := z) (l := p) hz i (fun j hj => h.1 j (by omega))).2 x
theorem unu_met {z : Nat} {p : Nat → Nat} (hz : z ≤ 7) (h : rowok z p z) : ∀ i, i ≤ z → unu (met p i) z = z - i := by
  intro i
  induction i with
  | zero => intro _; exact unu_z z
  | succ i ih =>
    intro hi
    have h1 := unu_or (met_nb hz h (show i < z by omega)) z
    rw [ih (by omega), if_pos (h.1 i (by omega))] at h1
    have e : met p (i + 1) = met p i ||| 2 ^ p i := rfl
    rw [e]
    omega
/-- the digit at a place -/
def rdg (p : Nat → Nat) (i : Nat) : Nat := unu (met p i) (p i)
theorem rkr_s {p : Nat → Nat} {z m : Nat} : rkr p z (m + 1) = rdg p (z - 1 - m) * fct m + rkr p z m := rfl
theorem rdg_le {z i : Nat} {p : Nat → Nat} (hz : z ≤ 7) (h : rowok z p z) (hi : i < z) : rdg p i ≤ z - 1 - i := by
  have h1 := unu_lt (met_nb hz h hi) (h.1 i hi)
  rw [unu_met hz h i (by omega)] at h1
  unfold rdg
  omega
theorem fct_s {m : Nat} : fct (m + 1) = m * fct m + fct m := by
  show fct m * (m + 1) = _
  rw [Nat.mul_succ, Nat.mul_comm]
theorem rkr_lt {z : Nat} {p : Nat → Nat} (hz : z ≤ 7) (h : rowok z p z) : ∀ m, m ≤ z → rkr p z m < fct m := by
  intro m
  induction m with
  | zero => intro _; exact Nat.one_pos
  | succ m ih =>
    intro hm
    have h1 := ih (by omega)
    have h2 := Nat.mul_le_mul_right (fct m) (rdg_le hz h (show z - 1 - m < z by omega))
    rw [show z - 1 - (z - 1 - m) = m by omega] at h2
    rw [rkr_s, fct_s]
    omega
theorem isrow_of {z : Nat} {p : Nat → Nat} (hz : z ≤ 7) (h : rowok z p z) : isrow z (rkr p z z) p := ⟨h, rkr_lt hz h, rfl⟩
theorem rdg_cg {p q : Nat → Nat} {i : Nat} (h : ∀ j, j ≤ i → p j = q j) : rdg p i = rdg q i := by
  unfold rdg
  rw [met_cg i (fun j hj => h j (by omega)), h i (Nat.le_refl _)]
/-- rows that are one below i: their ranks differ as those of their ends do -/
theorem rkr_up {p q : Nat → Nat} {z i : Nat} (hi : i ≤ z) (h : ∀ j, j < i → p j = q j) : ∀ k, k ≤ i → rkr p z (z - i + k) + rkr q z (z - i) = rkr q z (z - i + k) + rkr p z (z - i) := by
  intro k
  induction k with
  | zero => intro _; exact Nat.add_comm _ _
  | succ k ih =>
    intro hk
    have h1 := ih (by omega)
    have e := rdg_cg (p := p) (q := q) (i := z - 1 - (z - i + k)) (fun j hj => h j (by omega))
    show rkr p z (z - i + k + 1) + _ = rkr q z (z - i + k + 1) + _
    rw [rkr_s, rkr_s, e]
    omega
theorem rkr_up' {p q : Nat → Nat} {z i : Nat} (hi : i ≤ z) (h : ∀ j, j < i → p j = q j) : rkr p z z + rkr q z (z - i) = rkr q z z + rkr p z (z - i) := by
  have := rkr_up hi h i (Nat.le_refl _)
  rw [show z - i + i = z by omega] at this
  exact this
theorem rkr_lex {p q : Nat → Nat} {z i : Nat} (hz : z ≤ 7) (hp : rowok z p z) (hi : i < z) (h : ∀ j, j < i → p j = q j) (hlt : p i < q i) : rkr p z z < rkr q z z := by
  have h1 := rkr_up' (show i ≤ z by omega) h
  have h2 : rdg p i < rdg q i := by
    unfold rdg
    rw [← met_cg i h]
    exact unu_lt (met_nb hz hp hi) hlt
  have h3 := rkr_lt hz hp (z - 1 - i) (by omega)
  have e1 : rkr p z (z - i) = rdg p i * fct (z - 1 - i) + rkr p z (z - 1 - i) := by
    have := rkr_s (p := p) (z := z) (m := z - 1 - i)
    rw [show z - 1 - i + 1 = z - i by omega, show z - 1 - (z - 1 - i) = i by omega] at this
    exact this
  have e2 : rkr q z (z - i) = rdg q i * fct (z - 1 - i) + rkr q z (z - 1 - i) := by
    have := rkr_s (p := q) (z := z) (m := z - 1 - i)
    rw [show z - 1 - i + 1 = z - i by omega, show z - 1 - (z - 1 - i) = i by omega] at this
    exact this
  have h4 := Nat.mul_le_mul_right (fct (z - 1 - i)) (show rdg p i + 1 ≤ rdg q i from h2)
  rw [Nat.succ_mul] at h4
  omega
/-- of two rows: they are one, or one is ahead -/
theorem row_tri (p q : Nat → Nat) : ∀ z, (∀ j, j < z → p j = q j) ∨ ∃ i, i < z ∧ (∀ j, j < i → p j = q j) ∧ (p i < q i ∨ q i < p i) := by
  intro z
  induction z with
  | zero => exact Or.inl (fun j h => absurd h (Nat.not_lt_zero _))
  | succ z ih =>
    rcases ih with h | ⟨i, h1, h2, h3⟩
    · by_cases e : p z = q z
      · refine Or.inl (fun j hj => ?_)
        by_cases ej : j = z
        · rw [ej, e]
        · exact h j (by omega)
      · exact Or.inr ⟨z, by omega, h, by omega⟩
    · exact Or.inr ⟨i, by omega, h2, h3⟩
theorem row_one {p q : Nat → Nat} {z : Nat} (hz : z ≤ 7) (hp : rowok z p z) (hq : rowok z q z) (h : rkr p z z = rkr q z z) : ∀ j, j < z → p j = q j := by
  rcases row_tri p q z with h1 | ⟨i, h1, h2, h3 | h3⟩
  · exact h1
  · have := rkr_lex hz hp h1 h2 h3; omega
  · have := rkr_lex hz hq h1 (fun j hj => (h2 j hj).symm) h3; omega
/-- the first by rank is the first by numbers -/
theorem row_lex {p q : Nat → Nat} {z : Nat} (hz : z ≤ 7) (hq : rowok z q z) (h : rkr p z z ≤ rkr q z z) : (∀ j, j < z → p j = q j) ∨ ∃ i, i < z ∧ (∀ j, j < i → p j = q j) ∧ p i < q i := by
  rcases row_tri p q z with h1 | ⟨i, h1, h2, h3 | h3⟩
  · exact Or.inl h1
  · exact Or.inr ⟨i, h1, h2, h3⟩
  · have := rkr_lex hz hq h1 (fun j hj => (h2 j hj).symm) h3; omega
/-- all falls from i on -/
def rfall (p : Nat → Nat) (z i : Nat) : Prop := ∀ u, i ≤ u → u + 1 < z → p (u + 1) < p u
theorem rfall_lt {p : Nat → Nat} {z i : Nat} (h : rfall p z i) : ∀ k u, i ≤ u → u + 1 + k < z → p (u + 1 + k) < p u := by
  intro k
  induction k with
  | zero => intro u h1 h2; exact h u h1 h2
  | succ k ih =>
    intro u h1 h2
    have a := ih u h1 (by omega)
    have b := h (u + 1 + k) (by omega) (by omega)
    exact Nat.lt_trans b a
theorem rfall_le {p : Nat → Nat} {z i u v : Nat} (h : rfall p z i) (h1 : i ≤ u) (h2 : u < v) (h3 : v < z) : p v < p u := by
  have := rfall_lt h (v - u - 1) u h1 (by omega)
  rw [show u + 1 + (v - u - 1) = v by omega] at this
  exact this
theorem rdg_fall {z i : Nat} {p : Nat → Nat} (hz : z ≤ 7) (h : rowok z p z) (hi : i < z) (hf : rfall p z i) : rdg p i = z - 1 - i := by
  have h1 := unu_met hz h i (by omega)
  have hpi := h.1 i hi
  have h2 := unu_al (u := met p i) (x := p i + 1) (y := z) (by omega) (fun v v1 v2 => by
    obtain ⟨j, j1, j2⟩ := row_full h v2
    refine (met_in hz h (by omega)).mpr ⟨j, ?_, j2⟩
    rcases Nat.lt_trichotomy j i with t | t | t
    · exact t
    · subst t; omega
    · have := rfall_le hf (Nat.le_refl i) t j1; omega)
  rw [unu_n (met_nb hz h hi)] at h2
  unfold rdg
  omega
theorem rkr_fall {z i : Nat} {p : Nat → Nat} (hz : z ≤ 7) (h : rowok z p z) (hf : rfall p z i) : ∀ m, m + i ≤ z → rkr p z m + 1 = fct m := by
  intro m
  induction m with
  | zero => intro _; rfl
  | succ m ih =>
    intro hm
    have h1 := ih (by omega)
    have h2 := rdg_fall hz h (show z - 1 - m < z by omega) (fun u h1 h2 => hf u (by omega) h2)
    rw [show z - 1 - (z - 1 - m) = m by omega] at h2
    rw [rkr_s, h2, fct_s]
    omega
/-- all rises from i on -/
theorem rdg_rise {z i : Nat} {p : Nat → Nat} (hz : z ≤ 7) (h : rowok z p z) (hi : i < z) (hf : ∀ v, i < v → v < z → p i < p v) : rdg p i = 0 := by
  have hpi := h.1 i hi
  have h2 := unu_al (u := met p i) (x := 0) (y := p i) (by omega) (fun v v1 v2 => by
    obtain ⟨j, j1, j2⟩ := row_full h (show v < z by omega)
    refine (met_in hz h (by omega)).mpr ⟨j, ?_, j2⟩
    rcases Nat.lt_trichotomy j i with t | t | t
    · exact t
    · subst t; omega
    · have := hf j t j1; omega)
  exact h2
theorem rkr_rise {z i : Nat} {p : Nat → Nat} (hz : z ≤ 7) (h : rowok z p z) (hf : ∀ u v, i ≤ u → u < v → v < z → p u < p v) : ∀ m, m + i ≤ z → rkr p z m = 0 := by
  intro m
  induction m with
  | zero => intro _; rfl
  | succ m ih =>
    intro hm
    rw [rkr_s, ih (by omega), rdg_rise hz h (show z - 1 - m < z by omega) (fun v v1 v2 => hf _ v (by omega) v1 v2), Nat.zero_mul]
/-- where the places of the next row come from -/
def nxs (z t j x : Nat) : Nat := if x ≤ t then (if x = t then j else if x = j then t else x) else (if z + t - x = t then j else if z + t - x = j then t else z + t - x)
theorem nxr_s {p : Nat → Nat} {z t j x : Nat} : nxr p z t j x = p (nxs z t j x) := by
  unfold nxr nxs swp
  by_cases h : x ≤ t
  · rw [if_pos h, if_pos h]
    by_cases h1 : x = t
    · rw [if_pos h1, if_pos h1]
    · rw [if_neg h1, if_neg h1]
      by_cases h2 : x = j
      · rw [if_pos h2, if_pos h2]
      · rw [if_neg h2, if_neg h2]
  · rw [if_neg h, if_neg h]
    by_cases h1 : z + t - x = t
    · rw [if_pos h1, if_pos h1]
    · rw [if_neg h1, if_neg h1]
      by_cases h2 : z + t - x = j
      · rw [if_pos h2, if_pos h2]
      · rw [if_neg h2, if_neg h2]
theorem nxs_lo {z t j x : Nat} (h : x < t) (hj : t < j) : nxs z t j x = x := by
  unfold nxs; rw [if_pos (by omega), if_neg (by omega), if_neg (by omega)]
theorem nxs_t {z t j : Nat} : nxs z t j t = j := by
  unfold nxs; rw [if_pos (Nat.le_refl _), if_pos rfl]
theorem nxs_hi {z t j x : Nat} (h : t < x) (hx : x < z) : nxs z t j x = if z + t - x = j then t else z + t - x := by
  unfold nxs; rw [if_neg (by omega), if_neg (by omega)]
theorem nxs_or {z t j x : Nat} (hj : t < j) (hx : x < z) : (x < t ∧ nxs z t j x = x) ∨ (x = t ∧ nxs z t j x = j) ∨ (t < x ∧ x + j = z + t ∧ nxs z t j x = t) ∨ (t < x ∧ x + j ≠ z + t ∧ nxs z t j x + x = z + t) := by
  rcases Nat.lt_trichotomy x t with h | h | h
  · exact Or.inl ⟨h, nxs_lo h hj⟩
  · subst h; exact Or.inr (Or.inl ⟨rfl, nxs_t⟩)
  · rw [nxs_hi h hx]
    by_cases e : z + t - x = j
    · rw [if_pos e]; exact Or.inr (Or.inr (Or.inl ⟨h, by omega, rfl⟩))
    · rw [if_neg e]; exact Or.inr (Or.inr (Or.inr ⟨h, by omega, by omega⟩))
theorem nxr_ok {p : Nat → Nat} {n z t j : Nat} (h : rowok n p z) (hj : t < j) (hjz : j < z) : rowok n (nxr p z t j) z := by
  refine ⟨fun x hx => ?_, fun a b hab hb => ?_⟩
  · rw [nxr_s]
    refine h.1 _ ?_
    rcases nxs_or hj hx with q | q | q | q <;> omega
  · rw [nxr_s, nxr_s]
    have ha := nxs_or (z := z) hj (show a < z by omega)
    have hb' := nxs_or (z := z) hj hb
    have l1 : nxs z t j a < z := by omega
    have l2 : nxs z t j b < z := by omega
    have ne : nxs z t j a ≠ nxs z t j b := by omega
    rcases Nat.lt_or_gt_of_ne ne with q | q
    · exact h.2 _ _ q l2
    · exact fun e => h.2 _ _ q l1 e.symm
/-- a place to turn at, and one to change with -/
def rturn (p : Nat → Nat) (z a t j : Nat) : Prop := a ≤ t ∧ t + 1 < z ∧ p t < p (t + 1) ∧ rfall p z (t + 1) ∧ t < j ∧ j < z ∧ p t < p j ∧ ∀ u, j < u → u < z → p u < p t
theorem pk_great (P : Nat → Prop) : ∀ n, (∃ x, x < n ∧ P x) → ∃ x, x < n ∧ P x ∧ ∀ y, x < y → y < n → ¬ P y := by
  intro n
  induction n with
  | zero => rintro ⟨x, h, _⟩; exact absurd h (Nat.not_lt_zero _)
  | succ n ih =>
    rintro ⟨x, h1, h2⟩
    by_cases hn : P n
    · exact ⟨n, by omega, hn, fun y h1 h2 => by omega⟩
    · obtain ⟨y, y1, y2, y3⟩ := ih ⟨x, by
        by_cases e : x = n
        · subst e; exact absurd h2 hn
        · omega, h2⟩
      refine ⟨y, by omega, y2, fun w w1 w2 => ?_⟩
      by_cases e : w = n
      · subst e; exact hn
      · exact y3 w w1 (by omega)
theorem row_turn {p : Nat → Nat} {n z a : Nat} (h : rowok n p z) : rfall p z a ∨ ∃ t j, rturn p z a t j := by
  have ne : ∀ u v, u < v → v < z → ¬ p u < p v → p v < p u := fun u v h1 h2 h3 => by have := h.2 u v h1 h2; omega
  by_cases hx : ∃ u, u < z - 1 ∧ (a ≤ u ∧ p u < p (u + 1))
  · obtain ⟨t, t1, ⟨t2, t3⟩, t4⟩ := pk_great _ _ hx
    have hf : rfall p z (t + 1) := fun u h1 h2 => ne u (u + 1) (by omega) h2 (fun q => t4 u (by omega) (by omega) ⟨by omega, q⟩)
    obtain ⟨j, j1, ⟨j2, j3⟩, j4⟩ := pk_great (fun j => t < j ∧ p t < p j) z ⟨t + 1, by omega, by omega, t3⟩
    exact Or.inr ⟨t, j, t2, by omega, t3, hf, j2, j1, j3, fun u h1 h2 => ne t u (by omega) h2 (fun q => j4 u h1 h2 ⟨by omega, q⟩)⟩
  · exact Or.inl (fun u h1 h2 => ne u (u + 1) (by omega) h2 (fun q => hx ⟨u, by omega, h1, q⟩))
theorem nxr_rank {p : Nat → Nat} {z a t j : Nat} (hz : z ≤ 7) (h : rowok z p z) (ht : rturn p z a t j) : rkr (nxr p z t j) z z = rkr p z z + 1 := by
  obtain ⟨t1, t2, t3, t4, t5, t6, t7, t8⟩ := ht
  have hq := nxr_ok h t5 t6
  have below : ∀ x, x < t → nxr p z t j x = p x := fun x hx => by rw [nxr_s, nxs_lo hx t5]
  have at_t : nxr p z t j t = p j := by rw [nxr_s, nxs_t]
  have rise : ∀ u v, t + 1 ≤ u → u < v → v < z → nxr p z t j u < nxr p z t j v := fun u v h1 h2 h3 => by
    rw [nxr_s, nxr_s]
    have hu := nxs_or (z := z) t5 (show u < z by omega)
    have hv := nxs_or (z := z) t5 h3
    by_cases e1 : u + j = z + t
    · have eu : nxs z t j u = t := by omega
      rw [eu]
      have ev : nxs z t j v < j ∧ t < nxs z t j v := by omega
      exact Nat.lt_trans t7 (rfall_le t4 (by omega) ev.1 t6)
    · by_cases e2 : v + j = z + t
      · have ev : nxs z t j v = t := by omega
        rw [ev]
        exact t8 _ (by omega) (by omega)
      · exact rfall_le t4 (by omega) (by omega) (by omega)
  have r0 := rkr_rise hz hq (i := t + 1) rise (z - 1 - t) (by omega)
  have r1 := rkr_fall hz h t4 (z - 1 - t) (by omega)
  have d1 : rdg (nxr p z t j) t = rdg p t + 1 := by
    unfold rdg
    rw [met_cg t below, at_t, ← unu_n (met_nb hz h (show t < z by omega))]
    refine unu_al (by omega) (fun v v1 v2 => ?_)
    have := h.1 j t6
    obtain ⟨k, k1, k2⟩ := row_full h (show v < z by omega)
    refine (met_in hz h (by omega)).mpr ⟨k, ?_, k2⟩
    rcases Nat.lt_trichotomy k t with q | q | q
    · exact q
    · subst q; omega
    · rcases Nat.lt_trichotomy k j with r | r | r
      · have := rfall_le t4 (show t + 1 ≤ k by omega) r t6; omega
      · subst r; omega
      · have := t8 k r k1; omega
  have e1 := rkr_s (p := p) (z := z) (m := z - 1 - t)
  have e2 := rkr_s (p := nxr p z t j) (z := z) (m := z - 1 - t)
  rw [show z - 1 - t + 1 = z - t by omega, show z - 1 - (z - 1 - t) = t by omega] at e1 e2
  rw [r0, d1, Nat.succ_mul] at e2
  have e3 := rkr_up' (p := nxr p z t j) (q := p) (show t ≤ z by omega) below
  omega
theorem row_id {z : Nat} : rowok z (fun x => x) z := ⟨fun _ h => h, fun _ _ h _ => Nat.ne_of_lt h⟩
theorem row_id0 {z : Nat} (hz : z ≤ 7) : rkr (fun x => x) z z = 0 := rkr_rise hz row_id (i := 0) (fun u v _ h _ => h) z (Nat.le_refl _)
theorem row_ex {z : Nat} (hz : z ≤ 7) : ∀ k, k < fct z → ∃ p, rowok z p z ∧ rkr p z z = k := by
  intro k
  induction k with
  | zero => exact fun _ => ⟨_, row_id, row_id0 hz⟩
  | succ k ih =>
    intro hk
    obtain ⟨p, h1, h2⟩ := ih (by omega)
    rcases row_turn (a := 0) h1 with h | ⟨t, j, h⟩
    · have := rkr_fall hz h1 h z (Nat.le_refl _); omega
    · exact ⟨_, nxr_ok h1 h.2.2.2.2.1 h.2.2.2.2.2.1, by rw [nxr_rank hz h1 h, h2]⟩
/-- the k-th row -/
noncomputable def prow (z k : Nat) : Nat → Nat := Classical.epsilon (fun p => rowok z p z ∧ rkr p z z = k)
theorem prow_ok {z k : Nat} (hz : z ≤ 7) (hk : k < fct z) : rowok z (prow z k) z ∧ rkr (prow z k) z z = k := Classical.epsilon_spec (row_ex hz k hk)
theorem prow_is {z k : Nat} (hz : z ≤ 7) (hk : k < fct z) : isrow z k (prow z k) := by
  obtain ⟨h1, h2⟩ := prow_ok hz hk
  exact ⟨h1, rkr_lt hz h1, h2⟩
theorem prow_of {z : Nat} {p : Nat → Nat} (hz : z ≤ 7) (h : rowok z p z) : rkr p z z < fct z ∧ ∀ j, j < z → prow z (rkr p z z) j = p j := by
  have hlt := rkr_lt hz h z (Nat.le_refl _)
  obtain ⟨h1, h2⟩ := prow_ok hz hlt
  exact ⟨hlt, row_one hz h1 h h2⟩
theorem rkr_cg {p q : Nat → Nat} {z : Nat} (h : ∀ j, j < z → p j = q j) : rkr p z z = rkr q z z := by
  have := rkr_up' (p := p) (q := q) (Nat.le_refl z) h
  rw [Nat.sub_self] at this
  exact this
/-- rows with the least END ahead -/
theorem rkr_1 {p : Nat → Nat} {z : Nat} (hz1 : 1 ≤ z) (h0 : p 0 = 0) : rkr p z z = rkr p z (z - 1) := by
  have e1 := rkr_s (p := p) (z := z) (m := z - 1)
  rw [show z - 1 + 1 = z by omega, Nat.sub_self] at e1
  have : rdg p 0 = 0 := by unfold rdg; rw [h0]; rfl
  rw [this, Nat.zero_mul, Nat.zero_add] at e1
  exact e1
theorem nxr_e {p e : Nat → Nat} {z t j x : Nat} : nxr (fun y => e (p y)) z t j x = e (nxr p z t j x) := by rw [nxr_s, nxr_s]
theorem rowok_cg {n z : Nat} {p q : Nat → Nat} (h : rowok n p z) (e : ∀ j, j < z → q j = p j) : rowok n q z := ⟨fun j hj => by rw [e j hj]; exact h.1 j hj, fun i j hij hj => by rw [e i (by omega), e j hj]; exact h.2 i j hij hj⟩
