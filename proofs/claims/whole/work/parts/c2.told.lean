/-! a text that is read is a TREE as both hold it -/
/-- an END's bit, the bits of k parts from b on -/
def lfb (x : Nat × Nat × Nat × Nat × Nat) : Nat := if x.1 = 0 then 2 ^ x.2.2.2.1 else 0
def orb (t : TR) (b : Nat) : Nat → Nat
  | 0 => 0
  | k + 1 => orb t b k ||| lfb (t (b + k))
def lab (x : Nat × Nat × Nat × Nat × Nat) : Nat := if x.1 = 2 then 2 ^ x.2.2.2.1 ||| 2 ^ x.2.2.2.2 else 0
def oab (t : TR) : Nat → Nat
  | 0 => 0
  | k + 1 => oab t k ||| lab (t k)
theorem orb_lt {t : TR} {b : Nat} : ∀ k, (∀ j, b ≤ j → j < b + k → (t j).1 = 0 → (t j).2.2.2.1 < 7) → orb t b k < 128 := by
  intro k
  induction k with
  | zero => intro _; exact Nat.zero_lt_succ _
  | succ k ih =>
    intro h
    refine Nat.or_lt_two_pow (n := 7) (ih (fun j h1 h2 => h j h1 (by omega))) ?_
    unfold lfb
    split
    · rename_i q
      exact (shl7 _ (h (b + k) (by omega) (by omega) q)).2
    · decide
theorem orb_cg {t t' : TR} {b : Nat} : ∀ k, (∀ j, b ≤ j → j < b + k → t' j = t j) → orb t' b k = orb t b k := by
  intro k
  induction k with
  | zero => intro _; rfl
  | succ k ih =>
    intro h
    show orb t' b k ||| lfb (t' (b + k)) = orb t b k ||| lfb (t (b + k))
    rw [ih (fun j h1 h2 => h j h1 (by omega)), h (b + k) (by omega) (by omega)]
theorem orb_add {t : TR} {b k : Nat} : ∀ m, orb t b (k + m) = orb t b k ||| orb t (b + k) m := by
  intro m
  induction m with
  | zero => exact (Nat.or_zero _).symm
  | succ m ih =>
    show orb t b (k + m) ||| lfb (t (b + (k + m))) = orb t b k ||| (orb t (b + k) m ||| lfb (t (b + k + m)))
    rw [ih, Nat.or_assoc, Nat.add_assoc]
theorem orb_bit {t : TR} {b : Nat} : ∀ k e, btn (orb t b k) e ↔ ∃ j, j < k ∧ (t (b + j)).1 = 0 ∧ (t (b + j)).2.2.2.1 = e := by
  intro k
  induction k with
  | zero => intro e; exact ⟨fun h => absurd h (btn0 e), fun ⟨j, h, _⟩ => absurd h (Nat.not_lt_zero _)⟩
  | succ k ih =>
    intro e
    show btn (orb t b k ||| lfb (t (b + k))) e ↔ _
    rw [btn_or2, ih e]
    have hl : btn (lfb (t (b + k))) e ↔ ((t (b + k)).1 = 0 ∧ (t (b + k)).2.2.2.1 = e) := by
      unfold lfb
      by_cases h : (t (b + k)).1 = 0
      · rw [if_pos h, pow_btn]; exact ⟨fun q => ⟨h, q⟩, fun q => q.2⟩
      · rw [if_neg h]; exact ⟨fun q => absurd q (btn0 e), fun q => absurd q.1 h⟩
    rw [hl]
    constructor
    · rintro (⟨j, h1, h2⟩ | q)
      · exact ⟨j, by omega, h2⟩
      · exact ⟨k, by omega, q⟩
    · rintro ⟨j, h1, h2⟩
      by_cases e1 : j = k
      · subst e1; exact Or.inr h2
      · exact Or.inl ⟨j, by omega, h2⟩
theorem oab_bit {t : TR} : ∀ k e, btn (oab t k) e ↔ akb t k e := by
  intro k
  induction k with
  | zero => intro e; exact ⟨fun h => absurd h (btn0 e), fun ⟨j, h, _⟩ => absurd h (Nat.not_lt_zero _)⟩
  | succ k ih =>
    intro e
    show btn (oab t k ||| lab (t k)) e ↔ _
    rw [btn_or2, ih e]
    have hl : btn (lab (t k)) e ↔ ((t k).1 = 2 ∧ ((t k).2.2.2.1 = e ∨ (t k).2.2.2.2 = e)) := by
      unfold lab
      by_cases h : (t k).1 = 2
      · rw [if_pos h, btn_or2, pow_btn, pow_btn]; exact ⟨fun q => ⟨h, q⟩, fun q => q.2⟩
      · rw [if_neg h]; exact ⟨fun q => absurd q (btn0 e), fun q => absurd q.1 h⟩
    rw [hl]
    constructor
    · rintro (⟨j, h1, h2⟩ | q)
      · exact ⟨j, by omega, h2⟩
      · exact ⟨k, by omega, q⟩
    · rintro ⟨j, h1, h2⟩
      by_cases e1 : j = k
      · subst e1; exact Or.inr h2
      · exact Or.inl ⟨j, by omega, h2⟩
theorem oab_lt {t : TR} : ∀ k, (∀ j, j < k → (t j).1 = 2 → (t j).2.2.2.1 < 7 ∧ (t j).2.2.2.2 < 7) → oab t k < 128 := by
  intro k
  induction k with
  | zero => intro _; exact Nat.zero_lt_succ _
  | succ k ih =>
    intro h
    refine Nat.or_lt_two_pow (n := 7) (ih (fun j hj => h j (by omega))) ?_
    unfold lab
    split
    · rename_i q
      obtain ⟨h1, h2⟩ := h k (by omega) q
      exact Nat.or_lt_two_pow (n := 7) (shl7 _ h1).2 (shl7 _ h2).2
    · decide
/-- parts behind that point to earlier ones of their segment -/
def SEGC (u : TR) (c c' : Nat) : Prop := ∀ j, c ≤ j → j < c' → ¬ (u j).1 = 0 → (c ≤ (u j).2.1 ∧ (u j).2.1 < j) ∧ c ≤ (u j).2.2.1 ∧ (u j).2.2.1 < j
theorem SEG.c {t u : TR} {w : Nat → Nat} {q b b' c c' : Nat} (h : SEG t u w q b b' c c') : SEGC u c c' := by
  obtain ⟨h1, h2, h3, h4⟩ := h
  intro j j1 j2 hk
  obtain ⟨n, n1, n2, n3⟩ := h3 j j1 j2
  obtain ⟨g0, g1, g2, g3, g4, g5, g6, g7⟩ := h4 n n1 n2
  rw [n3] at g1 g6
  obtain ⟨k1, k2, k3, k4, k5, k6, k7⟩ := g6 (by rw [← g1]; exact hk)
  have a1 := h2 (n + 1) (by omega) k1
  have a2 := h2 (t n).2.2.1 (by omega) k3
  exact ⟨⟨by omega, by omega⟩, by omega, by omega⟩
theorem gvf_l {W : VW} {u u' : TR} {c c' : Nat} (hc : SEGC u c c') (he : ∀ j, c ≤ j → j < c' → u' j = u j) : ∀ (f g n : Nat), c ≤ n → n < c' → n < f → n < g → gvf W u' f n = gvf W u g n := by
  intro f
  induction f with
  | zero => intro g n _ _ h; omega
  | succ f ih =>
    intro g n h1 h2 hf hg
    obtain ⟨g, rfl⟩ : ∃ k, g = k + 1 := ⟨g - 1, by omega⟩
    unfold gvf
    rw [he n h1 h2]
    by_cases h0 : (u n).1 = 0
    · simp only [h0, if_true]
    · obtain ⟨⟨a1, a2⟩, a3, a4⟩ := hc n h1 h2 h0
      rw [ih g (u n).2.1 a1 (by omega) (by omega) (by omega), ih g (u n).2.2.1 a3 (by omega) (by omega) (by omega)]
theorem gvf_root {W : VW} {u : TR} {f n : Nat} (h : ¬ (u n).1 = 0) : (gvf W u (f + 1) n).2.2.2.1 = (gvf W u f (u n).2.1).2.2.2.1 ||| (gvf W u f (u n).2.2.1).2.2.2.1 := by
  conv => lhs; unfold gvf
  rw [if_neg h]
  by_cases h1 : (u n).1 = 1
  · rw [if_pos h1]; rfl
  · rw [if_neg h1]
    unfold gc
    split <;> rfl
theorem INS_pair {rec : PS → Nat × PS} {B : Nat → Nat} {z kd len x y sep cl : Nat} {p : PS} (hg : ∀ q, pgood z q (rec q)) (hS : ∀ q, (rec q).1 = 1 → SEG (sT (rec q).2) (sU (rec q).2) (sW (rec q).2) (sQ q) (sB q) (sB (rec q).2) (sC q) (sC (rec q).2)) (hI : ∀ q, (rec q).1 = 1 → ∀ W : VW, (gval W (sU (rec q).2) (sC (rec q).2 - 1)).2.2.2.1 = nI (orb (sT (rec q).2) (sB q) (sB (rec q).2 - sB q))) (hkd : kd = 1 ∨ kd = 2) (hok : (pPair rec B z kd (sB p) x y sep cl (pOpen p len kd x y)).1 = 1) : ∀ W : VW, (gval W (sU (pPair rec B z kd (sB p) x y sep cl (pOpen p len kd x y)).2) (sC (pPair rec B z kd (sB p) x y sep cl (pOpen p len kd x y)).2 - 1)).2.2.2.1 = nI (orb (sT (pPair rec B z kd (sB p) x y sep cl (pOpen p len kd x y)).2) (sB p) (sB (pPair rec B z kd (sB p) x y sep cl (pOpen p len kd x y)).2 - sB p)) := by
  intro W
  unfold pPair at hok ⊢
  have g1 := hg (pOpen p len kd x y)
  have s1 := hS (pOpen p len kd x y)
  have i1 := hI (pOpen p len kd x y)
  obtain ⟨R1, hR1⟩ : ∃ R, rec (pOpen p len kd x y) = R := ⟨_, rfl⟩
  rw [hR1] at g1 s1 i1 hok ⊢
  by_cases h1 : R1.1 = 0
  · rw [if_pos h1] at hok; omega
  rw [if_neg h1] at hok ⊢
  obtain ⟨c1, c2, c3, c4, c5, c6, c7, c8⟩ := g1.2.2.2 (by have := g1.1; omega)
  have S1 := s1 (by have := g1.1; omega)
  have I1 := i1 (by have := g1.1; omega) W
  by_cases h2 : isc B z sep (sA R1.2)
  · rw [if_pos h2] at hok ⊢
    have g2 := hg (pMid R1.2 (sB p) kd x y)
    have s2 := hS (pMid R1.2 (sB p) kd x y)
    have i2 := hI (pMid R1.2 (sB p) kd x y)
    obtain ⟨R2, hR2⟩ : ∃ R, rec (pMid R1.2 (sB p) kd x y) = R := ⟨_, rfl⟩
    rw [hR2] at g2 s2 i2 hok ⊢
    by_cases h3 : R2.1 = 0
    · rw [if_pos h3] at hok; omega
    rw [if_neg h3] at hok ⊢
    obtain ⟨f1, f2, f3, f4, f5, f6, f7, f8⟩ := g2.2.2.2 (by have := g2.1; omega)
    have S2 := s2 (by have := g2.1; omega)
    have I2 := i2 (by have := g2.1; omega) W
    by_cases h4 : isc B z cl (sA R2.2)
    · rw [if_pos h4] at hok ⊢
      have x1 : sB (pOpen p len kd x y) = sB p + 1 := rfl
      have x2 : sC (pOpen p len kd x y) = sC p := rfl
      have x4 : sB (pMid R1.2 (sB p) kd x y) = sB R1.2 := rfl
      have x5 : sC (pMid R1.2 (sB p) kd x y) = sC R1.2 := rfl
      rw [x1] at c2 c3 c7 I1 S1
      rw [x2] at c3 c4 S1
      rw [x4] at f2 f3 f7 I2 S2
      rw [x5] at f3 f4 f8 S2
      have y1 : sT (pEnd R2.2 (sB p) kd x y (sC R1.2)) = sT R2.2 := rfl
      have y2 : sU (pEnd R2.2 (sB p) kd x y (sC R1.2)) = updN (sU R2.2) (sC R2.2) (kd, sC R1.2 - 1, sC R2.2 - 1, x, y) := rfl
      have y4 : sB (pEnd R2.2 (sB p) kd x y (sC R1.2)) = sB R2.2 := rfl
      have y5 : sC (pEnd R2.2 (sB p) kd x y (sC R1.2)) = sC R2.2 + 1 := rfl
      rw [y1, y2, y4, y5, Nat.add_sub_cancel]
      have mT : ∀ j, sT (pMid R1.2 (sB p) kd x y) j = updN (sT R1.2) (sB p) (kd, 0, sB R1.2, x, y) j := fun j => rfl
      have mU : ∀ j, sU (pMid R1.2 (sB p) kd x y) j = sU R1.2 j := fun j => rfl
      have root : sT R2.2 (sB p) = (kd, 0, sB R1.2, x, y) := by rw [(f7 (sB p) (by omega)).1, mT, updN_s]
      have ur : updN (sU R2.2) (sC R2.2) (kd, sC R1.2 - 1, sC R2.2 - 1, x, y) (sC R2.2) = (kd, sC R1.2 - 1, sC R2.2 - 1, x, y) := updN_s
      have e1 : gvf W (updN (sU R2.2) (sC R2.2) (kd, sC R1.2 - 1, sC R2.2 - 1, x, y)) (sC R2.2) (sC R1.2 - 1) = gval W (sU R1.2) (sC R1.2 - 1) := by
        refine gvf_l S1.c (fun j j1 j2 => ?_) _ _ _ (by omega) (by omega) (by omega) (by omega)
        rw [updN_n (by omega), f8 j j2, mU]
      have e2 : gvf W (updN (sU R2.2) (sC R2.2) (kd, sC R1.2 - 1, sC R2.2 - 1, x, y)) (sC R2.2) (sC R2.2 - 1) = gval W (sU R2.2) (sC R2.2 - 1) := by
        refine gvf_l S2.c (fun j j1 j2 => ?_) _ _ _ (by omega) (by omega) (by omega) (by omega)
        rw [updN_n (by omega)]
      have o1 : orb (sT R1.2) (sB p + 1) (sB R1.2 - (sB p + 1)) = orb (sT R2.2) (sB p + 1) (sB R1.2 - (sB p + 1)) := by
        refine orb_cg _ (fun j j1 j2 => ?_)
        rw [(f7 j (by omega)).1, mT, updN_n (by omega)]
      have l1 : orb (sT R2.2) (sB p + 1) (sB R1.2 - (sB p + 1)) < 128 := by
        rw [← o1]
        exact orb_lt _ (fun j j1 j2 k => (S1.2.2.2 j j1 (by omega)).2.2.2.2.1 k)
      have l2 : orb (sT R2.2) (sB R1.2) (sB R2.2 - sB R1.2) < 128 := orb_lt _ (fun j j1 j2 k => (S2.2.2.2 j j1 (by omega)).2.2.2.2.1 k)
      have tot : orb (sT R2.2) (sB p) (sB R2.2 - sB p) = orb (sT R2.2) (sB p + 1) (sB R1.2 - (sB p + 1)) ||| orb (sT R2.2) (sB R1.2) (sB R2.2 - sB R1.2) := by
        rw [show sB R2.2 - sB p = 1 + (sB R1.2 - (sB p + 1)) + (sB R2.2 - sB R1.2) by omega, orb_add, orb_add]
        have : orb (sT R2.2) (sB p) 1 = 0 := by
          show 0 ||| lfb (sT R2.2 (sB p + 0)) = 0
          rw [Nat.add_zero, root]
          unfold lfb
          rw [if_neg (show ¬ kd = 0 by omega)]; rfl
        rw [this, Nat.zero_or, show sB p + (1 + (sB R1.2 - (sB p + 1))) = sB R1.2 by omega]
      show (gvf W (updN (sU R2.2) (sC R2.2) (kd, sC R1.2 - 1, sC R2.2 - 1, x, y)) (sC R2.2 + 1) (sC R2.2)).2.2.2.1 = _
      rw [gvf_root (by rw [ur]; show ¬ kd = 0; omega), ur]
      show (gvf W (updN (sU R2.2) (sC R2.2) (kd, sC R1.2 - 1, sC R2.2 - 1, x, y)) (sC R2.2) (sC R1.2 - 1)).2.2.2.1 ||| (gvf W (updN (sU R2.2) (sC R2.2) (kd, sC R1.2 - 1, sC R2.2 - 1, x, y)) (sC R2.2) (sC R2.2 - 1)).2.2.2.1 = _
      rw [e1, e2, I1, I2, o1, or_N (by omega) (by omega), tot]
    · rw [if_neg h4] at hok
      exact absurd hok (show ¬ (0 : Nat) = 1 by decide)
  · rw [if_neg h2] at hok
    exact absurd hok (show ¬ (0 : Nat) = 1 by decide)
theorem INS_leaf {B : Nat → Nat} {z n : Nat} {p : PS} (h : isd B z n (sA p)) (hn : n ≤ 7) : ∀ W : VW, (gval W (sU (pLeaf B p)) (sC (pLeaf B p) - 1)).2.2.2.1 = nI (orb (sT (pLeaf B p)) (sB p) (sB (pLeaf B p) - sB p)) := by
  intro W
  have et : sT (pLeaf B p) (sB p) = (0, 0, 0, B (sA p) - 48, 0) := updN_s
  have eu : sU (pLeaf B p) (sC p) = (0, 0, 0, B (sA p) - 48, 0) := updN_s
  have y4 : sB (pLeaf B p) = sB p + 1 := rfl
  have y5 : sC (pLeaf B p) = sC p + 1 := rfl
  rw [y4, y5, Nat.add_sub_cancel, Nat.add_sub_cancel_left, gval_0 (by rw [eu]), eu]
  have : orb (sT (pLeaf B p)) (sB p) 1 = 2 ^ (B (sA p) - 48) := by
    show 0 ||| lfb (sT (pLeaf B p) (sB p + 0)) = _
    rw [Nat.add_zero, et, Nat.zero_or]
    rfl
  rw [this]
  exact (shl7 (B (sA p) - 48) (by have := h.2.2; omega)).1
theorem pp_INS {B : Nat → Nat} {z n : Nat} (hn : n ≤ 7) : ∀ r p, (pp B z n r p).1 = 1 → ∀ W : VW, (gval W (sU (pp B z n r p).2) (sC (pp B z n r p).2 - 1)).2.2.2.1 = nI (orb (sT (pp B z n r p).2) (sB p) (sB (pp B z n r p).2 - sB p)) := by
  intro r
  induction r with
  | zero =>
    intro p
    unfold pp
    by_cases h : isd B z n (sA p)
    · rw [if_pos h]; exact fun _ => INS_leaf h hn
    · rw [if_neg h]; exact fun q => absurd q (show ¬ (0 : Nat) = 1 by decide)
  | succ r ih =>
    intro p
    unfold pp
    by_cases h1 : isc B z 40 (sA p)
    · rw [if_pos h1]; exact INS_pair (fun q => pp_good r q) (fun q hq => (pp_SEG hn r q hq).1) ih (Or.inl rfl)
    rw [if_neg h1]
    by_cases h2 : isc B z 123 (sA p)
    · rw [if_pos h2]
      by_cases h3 : isd B z n (sA p + 1)
      · rw [if_pos h3]
        by_cases h4 : isc B z 62 (sA p + 2)
        · rw [if_pos h4]
          by_cases h5 : isd B z n (sA p + 3)
          · rw [if_pos h5]
            by_cases h6 : isc B z 58 (sA p + 4)
            · rw [if_pos h6]; exact INS_pair (fun q => pp_good r q) (fun q hq => (pp_SEG hn r q hq).1) ih (Or.inr rfl)
            · rw [if_neg h6]; exact fun q => absurd q (show ¬ (0 : Nat) = 1 by decide)
          · rw [if_neg h5]; exact fun q => absurd q (show ¬ (0 : Nat) = 1 by decide)
        · rw [if_neg h4]; exact fun q => absurd q (show ¬ (0 : Nat) = 1 by decide)
      · rw [if_neg h3]; exact fun q => absurd q (show ¬ (0 : Nat) = 1 by decide)
    rw [if_neg h2]
    by_cases h : isd B z n (sA p)
    · rw [if_pos h]; exact fun _ => INS_leaf h hn
    · rw [if_neg h]; exact fun q => absurd q (show ¬ (0 : Nat) = 1 by decide)
/-- the TREE that is told -/
def tdn (B : Nat → Nat) (z n : Nat) : TD := (sT (pp B z n 6 p00).2, sU (pp B z n 6 p00).2, sW (pp B z n 6 p00).2, sB (pp B z n 6 p00).2, sQ (pp B z n 6 p00).2, orb (sT (pp B z n 6 p00).2) 0 (sB (pp B z n 6 p00).2), oab (sT (pp B z n 6 p00).2) (sB (pp B z n 6 p00).2))
theorem tdn_ok {B : Nat → Nat} {z n : Nat} (hn : n ≤ 7) (hz : z ≤ 120) (h : (pp B z n 6 p00).1 = 1) : tdOK (tdn B z n) ∧ sC (pp B z n 6 p00).2 = sB (pp B z n 6 p00).2 := by
  have g := (pp_good (B := B) (z := z) (n := n) 6 p00)
  have hl := ftv_lt (B := B) (z := z) (n := n)
  obtain ⟨c1, c2, c3, c4, c5, c6, c7, c8⟩ := g.2.2.2 h
  obtain ⟨⟨s1, s2, s3, s4⟩, sq⟩ := pp_SEG hn 6 p00 h
  have hI := pp_INS hn 6 p00 h
  unfold tdn
  obtain ⟨R, hR⟩ : ∃ R, (pp B z n 6 p00).2 = R := ⟨_, rfl⟩
  rw [hR] at hl c1 c2 c3 c4 c5 c6 c7 c8 s1 s2 s3 s4 sq hI ⊢
  have z1 : sB p00 = 0 := rfl
  have z2 : sC p00 = 0 := rfl
  have z3 : sA p00 = 0 := rfl
  have z4 : sQ p00 = 0 := rfl
  rw [z1] at c2 c3 c5 s1 s2 s3 s4 sq hI
  rw [z2] at c3 s2 s3
  rw [z3] at c5
  rw [z4] at s4 sq
  have hK : sC R = sB R := by omega
  rw [hK] at s1 s2 s3 hI
  refine ⟨⟨c2, by show sB R ≤ 60; omega, fun j hj => ?_, fun m hm => ?_, ⟨by show sW R 0 = sB R - 1; omega, fun j hj => (s2 j (Nat.zero_le _) hj).2, fun m hm => ?_, fun j hj => ?_⟩, ?_, orb_lt _ (fun j _ hj k => (s4 j (Nat.zero_le _) (by omega)).2.2.2.2.1 k), oab_lt _ (fun j hj k => (s4 j (Nat.zero_le _) hj).2.2.2.2.2.1 k), fun e _ => ⟨?_, oab_bit _ e⟩, fun W => ?_⟩, hK⟩
  · obtain ⟨g0, g1, g2, g3, g4, g5, g6, g7⟩ := s4 j (Nat.zero_le _) hj
    exact ⟨g0, g4, g5, fun k => ⟨(g6 k).1, (g6 k).2.1, (g6 k).2.2.1⟩⟩
  · have hm' : m < sB R := hm
    obtain ⟨j, j1, j2, j3⟩ := s3 m (Nat.zero_le _) hm'
    obtain ⟨g0, g1, g2, g3, g4, g5, g6, g7⟩ := s4 j (Nat.zero_le _) j2
    rw [j3] at g1 g2 g3 g6
    show (sU R m).1 ≤ 2 ∧ ((sU R m).1 = 0 → (sU R m).2.2.2.1 < 7) ∧ (¬ (sU R m).1 = 0 → (sU R m).2.1 < m ∧ (sU R m).2.2.1 < m) ∧ ((sU R m).1 = 2 → (sU R m).2.2.2.1 < 7 ∧ (sU R m).2.2.2.2 < 7)
    rw [g1, g2, g3]
    refine ⟨g0, g4, fun k => ?_, g5⟩
    obtain ⟨k1, k2, k3, k4, k5, k6, k7⟩ := g6 k
    rw [k4, k5]
    exact ⟨k6, k7⟩
  · obtain ⟨j, j1, j2, j3⟩ := s3 m (Nat.zero_le _) hm
    exact ⟨j, j2, j3⟩
  · obtain ⟨g0, g1, g2, g3, g4, g5, g6, g7⟩ := s4 j (Nat.zero_le _) hj
    refine ⟨g1, fun _ => g2, fun _ => g3, fun k => ⟨(g6 k).2.2.2.1, (g6 k).2.2.2.2.1⟩, fun k => ?_⟩
    show (sU R (sW R j)).2.2.2.1 = qah (sT R) j
    rw [g2]
    have := g7 k
    have e0 : qah (sT R) 0 = 0 := rfl
    omega
  · show sQ R = qah (sT R) (sB R)
    have : sQ R + qah (sT R) 0 = 0 + qah (sT R) (sB R) := sq
    have e0 : qah (sT R) 0 = 0 := rfl
    omega
  · show btn (orb (sT R) 0 (sB R)) e ↔ sdb (sT R) (sB R) e
    rw [orb_bit]
    unfold sdb
    simp only [Nat.zero_add]
  · exact hI W
