/-! a text is read: the parts ahead (class) and behind (reference) of one TREE, side by side -/
/-- at; parts ahead, how many; parts behind, how many; QUESTIONS; where a part ahead stands behind -/
abbrev PS : Type := Nat × Nat × TR × Nat × TR × Nat × (Nat → Nat)
def sA (p : PS) : Nat := p.1
def sB (p : PS) : Nat := p.2.1
def sT (p : PS) : TR := p.2.2.1
def sC (p : PS) : Nat := p.2.2.2.1
def sU (p : PS) : TR := p.2.2.2.2.1
def sQ (p : PS) : Nat := p.2.2.2.2.2.1
def sW (p : PS) : Nat → Nat := p.2.2.2.2.2.2
/-- an END's digit -/
abbrev isd (B : Nat → Nat) (z n a : Nat) : Prop := a < z ∧ 48 ≤ B a ∧ B a < 48 + n
abbrev isc (B : Nat → Nat) (z c a : Nat) : Prop := a < z ∧ B a = c
def pLeaf (B : Nat → Nat) (p : PS) : PS := (sA p + 1, sB p + 1, updN (sT p) (sB p) (0, 0, 0, B (sA p) - 48, 0), sC p + 1, updN (sU p) (sC p) (0, 0, 0, B (sA p) - 48, 0), sQ p, updN (sW p) (sB p) (sC p))
def pOpen (p : PS) (len kd x y : Nat) : PS := (sA p + len, sB p + 1, updN (sT p) (sB p) (kd, 0, 0, x, y), sC p, sU p, sQ p + (if kd = 1 then 1 else 0), sW p)
def pMid (p : PS) (b kd x y : Nat) : PS := (sA p + 1, sB p, updN (sT p) b (kd, 0, sB p, x, y), sC p, sU p, sQ p, sW p)
def pEnd (p : PS) (b kd x y c1 : Nat) : PS := (sA p + 1, sB p, sT p, sC p + 1, updN (sU p) (sC p) (kd, c1 - 1, sC p - 1, x, y), sQ p, updN (sW p) b (sC p))
def pAt (p : PS) (a : Nat) : PS := (a, p.2)
def pPair (rec : PS → Nat × PS) (B : Nat → Nat) (z kd b x y sep cl : Nat) (p1 : PS) : Nat × PS :=
  if (rec p1).1 = 0 then rec p1
  else if isc B z sep (sA (rec p1).2) then
    (if (rec (pMid (rec p1).2 b kd x y)).1 = 0 then rec (pMid (rec p1).2 b kd x y)
     else if isc B z cl (sA (rec (pMid (rec p1).2 b kd x y)).2) then (1, pEnd (rec (pMid (rec p1).2 b kd x y)).2 b kd x y (sC (rec p1).2))
     else (0, (rec (pMid (rec p1).2 b kd x y)).2))
  else (0, (rec p1).2)
def pp (B : Nat → Nat) (z n : Nat) : Nat → PS → Nat × PS
  | 0, p => if isd B z n (sA p) then (1, pLeaf B p) else (0, p)
  | r + 1, p =>
    if isc B z 40 (sA p) then pPair (pp B z n r) B z 1 (sB p) (sQ p) 0 118 41 (pOpen p 1 1 (sQ p) 0)
    else if isc B z 123 (sA p) then
      (if isd B z n (sA p + 1) then
        (if isc B z 62 (sA p + 2) then
          (if isd B z n (sA p + 3) then
            (if isc B z 58 (sA p + 4) then pPair (pp B z n r) B z 2 (sB p) (B (sA p + 1) - 48) (B (sA p + 3) - 48) 47 125 (pOpen p 5 2 (B (sA p + 1) - 48) (B (sA p + 3) - 48))
             else (0, pAt p (sA p + 4)))
           else (0, pAt p (sA p + 3)))
         else (0, pAt p (sA p + 2)))
       else (0, pAt p (sA p + 1)))
    else if isd B z n (sA p) then (1, pLeaf B p) else (0, p)
/-- what a part that is read leaves -/
def pgood (z : Nat) (p : PS) (R : Nat × PS) : Prop := R.1 ≤ 1 ∧ sA p ≤ sA R.2 ∧ (sA p ≤ z → sA R.2 ≤ z) ∧ (R.1 = 1 → sA p < sA R.2 ∧ sB p < sB R.2 ∧ sB R.2 - sB p = sC R.2 - sC p ∧ sC p < sC R.2 ∧ 2 * (sB R.2 - sB p) ≤ sA R.2 - sA p + 1 ∧ sQ p ≤ sQ R.2 ∧ (∀ j, j < sB p → sT R.2 j = sT p j ∧ sW R.2 j = sW p j) ∧ ∀ j, j < sC p → sU R.2 j = sU p j)
theorem pgood_no {z : Nat} {p q : PS} (h1 : sA p ≤ sA q) (h2 : sA p ≤ z → sA q ≤ z) : pgood z p (0, q) := ⟨Nat.zero_le _, h1, h2, fun h => absurd h (show ¬ (0 : Nat) = 1 by decide)⟩
theorem pgood_leaf {B : Nat → Nat} {z n : Nat} {p : PS} (h : isd B z n (sA p)) : pgood z p (1, pLeaf B p) := by
  refine ⟨Nat.le_refl _, Nat.le_succ _, fun _ => h.1, fun _ => ⟨Nat.lt_succ_self _, Nat.lt_succ_self _, ?_, Nat.lt_succ_self _, ?_, Nat.le_refl _, fun j hj => ⟨updN_n (by omega), updN_n (by omega)⟩, fun j hj => updN_n (by omega)⟩⟩
  · show sB p + 1 - sB p = sC p + 1 - sC p; omega
  · show 2 * (sB p + 1 - sB p) ≤ sA p + 1 - sA p + 1; omega
theorem pgood_pair {rec : PS → Nat × PS} {B : Nat → Nat} {z kd len x y sep cl : Nat} {p : PS} (hrec : ∀ q, pgood z q (rec q)) (hlen : 1 ≤ len) (hz : sA p + len ≤ z) : pgood z p (pPair rec B z kd (sB p) x y sep cl (pOpen p len kd x y)) := by
  unfold pPair
  have g1 := hrec (pOpen p len kd x y)
  obtain ⟨R1, hR1⟩ : ∃ R, rec (pOpen p len kd x y) = R := ⟨_, rfl⟩
  rw [hR1] at g1 ⊢
  obtain ⟨a1, a2, a3, a4⟩ := g1
  have b1 : sA p + len ≤ sA R1.2 := a2
  have b3 : sA R1.2 ≤ z := a3 hz
  by_cases h1 : R1.1 = 0
  · rw [if_pos h1]
    exact ⟨a1, by omega, fun _ => b3, fun q => by omega⟩
  rw [if_neg h1]
  obtain ⟨c1, c2, c3, c4, c5, c6, c7, c8⟩ := a4 (by omega)
  by_cases h2 : isc B z sep (sA R1.2)
  · rw [if_pos h2]
    have g2 := hrec (pMid R1.2 (sB p) kd x y)
    obtain ⟨R2, hR2⟩ : ∃ R, rec (pMid R1.2 (sB p) kd x y) = R := ⟨_, rfl⟩
    rw [hR2] at g2 ⊢
    obtain ⟨d1, d2, d3, d4⟩ := g2
    have e1 : sA R1.2 + 1 ≤ sA R2.2 := d2
    have e3 : sA R2.2 ≤ z := d3 h2.1
    by_cases h3 : R2.1 = 0
    · rw [if_pos h3]
      exact ⟨d1, by omega, fun _ => e3, fun q => by omega⟩
    rw [if_neg h3]
    obtain ⟨f1, f2, f3, f4, f5, f6, f7, f8⟩ := d4 (by omega)
    by_cases h4 : isc B z cl (sA R2.2)
    · rw [if_pos h4]
      have x1 : sB (pOpen p len kd x y) = sB p + 1 := rfl
      have x2 : sC (pOpen p len kd x y) = sC p := rfl
      have x3 : sA (pOpen p len kd x y) = sA p + len := rfl
      have x4 : sB (pMid R1.2 (sB p) kd x y) = sB R1.2 := rfl
      have x5 : sC (pMid R1.2 (sB p) kd x y) = sC R1.2 := rfl
      have x6 : sA (pMid R1.2 (sB p) kd x y) = sA R1.2 + 1 := rfl
      have x7 : sQ (pMid R1.2 (sB p) kd x y) = sQ R1.2 := rfl
      have x8 : sQ p ≤ sQ (pOpen p len kd x y) := Nat.le_add_right _ _
      rw [x1] at c2 c3 c5 c7
      rw [x2] at c3 c4 c8
      rw [x3] at c1 c5
      rw [x4] at f2 f3 f5 f7
      rw [x5] at f3 f4 f8
      rw [x6] at f1 f5
      rw [x7] at f6
      refine ⟨Nat.le_refl _, ?_, fun _ => h4.1, fun _ => ⟨?_, ?_, ?_, ?_, ?_, ?_, fun j hj => ⟨?_, ?_⟩, fun j hj => ?_⟩⟩
      · show sA p ≤ sA R2.2 + 1; omega
      · show sA p < sA R2.2 + 1; omega
      · show sB p < sB R2.2; omega
      · show sB R2.2 - sB p = sC R2.2 + 1 - sC p; omega
      · show sC p < sC R2.2 + 1; omega
      · show 2 * (sB R2.2 - sB p) ≤ sA R2.2 + 1 - sA p + 1; omega
      · show sQ p ≤ sQ R2.2; omega
      · show sT R2.2 j = sT p j
        rw [(f7 j (by omega)).1]
        show updN (sT R1.2) (sB p) _ j = _
        rw [updN_n (by omega), (c7 j (by omega)).1]
        exact updN_n (by omega)
      · show updN (sW R2.2) (sB p) _ j = sW p j
        rw [updN_n (by omega), (f7 j (by omega)).2]
        exact (c7 j (by omega)).2
      · show updN (sU R2.2) (sC R2.2) _ j = sU p j
        rw [updN_n (by omega), f8 j (by omega)]
        exact c8 j hj
    · rw [if_neg h4]
      exact pgood_no (by omega) (fun _ => e3)
  · rw [if_neg h2]
    exact pgood_no (by omega) (fun _ => b3)
theorem pp_good {B : Nat → Nat} {z n : Nat} : ∀ r p, pgood z p (pp B z n r p) := by
  intro r
  induction r with
  | zero =>
    intro p
    unfold pp
    by_cases h : isd B z n (sA p)
    · rw [if_pos h]; exact pgood_leaf h
    · rw [if_neg h]; exact pgood_no (Nat.le_refl _) (fun h => h)
  | succ r ih =>
    intro p
    unfold pp
    by_cases h1 : isc B z 40 (sA p)
    · rw [if_pos h1]; exact pgood_pair ih (Nat.le_refl _) h1.1
    rw [if_neg h1]
    by_cases h2 : isc B z 123 (sA p)
    · rw [if_pos h2]
      by_cases h3 : isd B z n (sA p + 1)
      · rw [if_pos h3]
        by_cases h4 : isc B z 62 (sA p + 2)
        · rw [if_pos h4]
          by_cases h5 : isd B z n (sA p + 3)
          · rw [if_pos h5]
            by_cases h6 : isc B z 58 (sA p + 4)
            · rw [if_pos h6]; exact pgood_pair ih (by omega) (by have := h6.1; omega)
            · rw [if_neg h6]; exact pgood_no (show sA p ≤ sA p + 4 by omega) (fun _ => show sA p + 4 ≤ z by have := h5.1; omega)
          · rw [if_neg h5]; exact pgood_no (show sA p ≤ sA p + 3 by omega) (fun _ => show sA p + 3 ≤ z by have := h4.1; omega)
        · rw [if_neg h4]; exact pgood_no (show sA p ≤ sA p + 2 by omega) (fun _ => show sA p + 2 ≤ z by have := h3.1; omega)
      · rw [if_neg h3]; exact pgood_no (show sA p ≤ sA p + 1 by omega) (fun _ => show sA p + 1 ≤ z by have := h2.1; omega)
    rw [if_neg h2]
    by_cases h : isd B z n (sA p)
    · rw [if_pos h]; exact pgood_leaf h
    · rw [if_neg h]; exact pgood_no (Nat.le_refl _) (fun h => h)
/-! the segment that is read is one TREE in both pictures -/
/-- the parts ahead from b to b' and those behind from c to c' are one TREE; its QUESTIONS from q on -/
def SEG (t u : TR) (w : Nat → Nat) (q b b' c c' : Nat) : Prop := w b + 1 = c' ∧ (∀ n, b ≤ n → n < b' → c ≤ w n ∧ w n < c') ∧ (∀ m, c ≤ m → m < c' → ∃ n, b ≤ n ∧ n < b' ∧ w n = m) ∧ ∀ n, b ≤ n → n < b' → (t n).1 ≤ 2 ∧ (u (w n)).1 = (t n).1 ∧ (u (w n)).2.2.2.1 = (t n).2.2.2.1 ∧ (u (w n)).2.2.2.2 = (t n).2.2.2.2 ∧ ((t n).1 = 0 → (t n).2.2.2.1 < 7) ∧ ((t n).1 = 2 → (t n).2.2.2.1 < 7 ∧ (t n).2.2.2.2 < 7) ∧ (¬ (t n).1 = 0 → n + 1 < b' ∧ n < (t n).2.2.1 ∧ (t n).2.2.1 < b' ∧ (u (w n)).2.1 = w (n + 1) ∧ (u (w n)).2.2.1 = w (t n).2.2.1 ∧ w (n + 1) < w n ∧ w (t n).2.2.1 < w n) ∧ ((t n).1 = 1 → (t n).2.2.2.1 + qah t b = q + qah t n)
theorem qah_cg {t t' : TR} : ∀ c n, (∀ j, n ≤ j → j < n + c → (t j).1 = (t' j).1) → qah t (n + c) + qah t' n = qah t' (n + c) + qah t n := by
  intro c
  induction c with
  | zero => intro n _; exact Nat.add_comm _ _
  | succ c ih =>
    intro n h
    have h1 := ih n (fun j h1 h2 => h j h1 (by omega))
    have h2 := h (n + c) (by omega) (by omega)
    show qah t (n + c) + (if (t (n + c)).1 = 1 then 1 else 0) + qah t' n = qah t' (n + c) + (if (t' (n + c)).1 = 1 then 1 else 0) + qah t n
    rw [h2]
    omega
theorem qah_d {t t' : TR} {b n : Nat} (hb : b ≤ n) (h : ∀ j, b ≤ j → j < n → (t j).1 = (t' j).1) : qah t n + qah t' b = qah t' n + qah t b := by
  obtain ⟨c, rfl⟩ : ∃ c, n = b + c := ⟨n - b, by omega⟩
  exact qah_cg c b h
theorem qah_s {t : TR} {n : Nat} : qah t (n + 1) = qah t n + (if (t n).1 = 1 then 1 else 0) := rfl
/-- a segment is one still where nothing of it changes -/
theorem SEG.cg {t t' u u' : TR} {w w' : Nat → Nat} {q b b' c c' : Nat} (h : SEG t u w q b b' c c') (hbb : b < b') (ht : ∀ j, b ≤ j → j < b' → t' j = t j) (hu : ∀ j, c ≤ j → j < c' → u' j = u j) (hw : ∀ j, b ≤ j → j < b' → w' j = w j) : SEG t' u' w' q b b' c c' := by
  obtain ⟨h1, h2, h3, h4⟩ := h
  refine ⟨by rw [hw b (Nat.le_refl _) hbb]; exact h1, fun n a1 a2 => by rw [hw n a1 a2]; exact h2 n a1 a2, fun m a1 a2 => ?_, fun n a1 a2 => ?_⟩
  · obtain ⟨n, n1, n2, n3⟩ := h3 m a1 a2
    exact ⟨n, n1, n2, by rw [hw n n1 n2]; exact n3⟩
  · obtain ⟨g0, g1, g2, g3, g4, g5, g6, g7⟩ := h4 n a1 a2
    obtain ⟨w1, w2⟩ := h2 n a1 a2
    rw [ht n a1 a2, hw n a1 a2, hu (w n) w1 w2]
    refine ⟨g0, g1, g2, g3, g4, g5, fun k => ?_, fun k => ?_⟩
    · obtain ⟨k1, k2, k3, k4, k5, k6, k7⟩ := g6 k
      rw [hw (n + 1) (by omega) k1, hw (t n).2.2.1 (by omega) k3]
      exact ⟨k1, k2, k3, k4, k5, k6, k7⟩
    · have e := qah_d (t := t') (t' := t) a1 (fun j j1 j2 => by rw [ht j j1 (by omega)])
      have := g7 k
      omega
/-- the TREE's parts and ENDS, by the bits that are set -/
def SEGQ (t : TR) (q q' b b' : Nat) : Prop := q' + qah t b = q + qah t b'
theorem SEG_leaf {B : Nat → Nat} {z n : Nat} {p : PS} (h : isd B z n (sA p)) (hn : n ≤ 7) : SEG (sT (pLeaf B p)) (sU (pLeaf B p)) (sW (pLeaf B p)) (sQ p) (sB p) (sB p + 1) (sC p) (sC p + 1) ∧ SEGQ (sT (pLeaf B p)) (sQ p) (sQ (pLeaf B p)) (sB p) (sB p + 1) := by
  have et : sT (pLeaf B p) (sB p) = (0, 0, 0, B (sA p) - 48, 0) := updN_s
  have eu : sU (pLeaf B p) (sC p) = (0, 0, 0, B (sA p) - 48, 0) := updN_s
  have ew : sW (pLeaf B p) (sB p) = sC p := updN_s
  refine ⟨⟨by rw [ew], fun j h1 h2 => by rw [show j = sB p by omega, ew]; omega, fun m h1 h2 => ⟨sB p, by omega, by omega, by rw [ew]; omega⟩, fun j h1 h2 => ?_⟩, ?_⟩
  · rw [show j = sB p by omega, ew, et, eu]
    refine ⟨Nat.zero_le 2, rfl, rfl, rfl, fun _ => ?_, fun q => absurd q (show ¬ (0 : Nat) = 2 by decide), fun q => absurd rfl q, fun q => absurd q (show ¬ (0 : Nat) = 1 by decide)⟩
    show B (sA p) - 48 < 7
    have := h.2.2
    omega
  · show sQ p + qah (sT (pLeaf B p)) (sB p) = sQ p + qah (sT (pLeaf B p)) (sB p + 1)
    rw [qah_s, et]; rfl
theorem SEG_pair {rec : PS → Nat × PS} {B : Nat → Nat} {z kd len x y sep cl : Nat} {p : PS} (hg : ∀ q, pgood z q (rec q)) (hrec : ∀ q, (rec q).1 = 1 → SEG (sT (rec q).2) (sU (rec q).2) (sW (rec q).2) (sQ q) (sB q) (sB (rec q).2) (sC q) (sC (rec q).2) ∧ SEGQ (sT (rec q).2) (sQ q) (sQ (rec q).2) (sB q) (sB (rec q).2)) (hkd : (kd = 1 ∧ x = sQ p) ∨ (kd = 2 ∧ x < 7 ∧ y < 7)) (hok : (pPair rec B z kd (sB p) x y sep cl (pOpen p len kd x y)).1 = 1) : SEG (sT (pPair rec B z kd (sB p) x y sep cl (pOpen p len kd x y)).2) (sU (pPair rec B z kd (sB p) x y sep cl (pOpen p len kd x y)).2) (sW (pPair rec B z kd (sB p) x y sep cl (pOpen p len kd x y)).2) (sQ p) (sB p) (sB (pPair rec B z kd (sB p) x y sep cl (pOpen p len kd x y)).2) (sC p) (sC (pPair rec B z kd (sB p) x y sep cl (pOpen p len kd x y)).2) ∧ SEGQ (sT (pPair rec B z kd (sB p) x y sep cl (pOpen p len kd x y)).2) (sQ p) (sQ (pPair rec B z kd (sB p) x y sep cl (pOpen p len kd x y)).2) (sB p) (sB (pPair rec B z kd (sB p) x y sep cl (pOpen p len kd x y)).2) := by
  unfold pPair at hok ⊢
  have g1 := hg (pOpen p len kd x y)
  have s1 := hrec (pOpen p len kd x y)
  obtain ⟨R1, hR1⟩ : ∃ R, rec (pOpen p len kd x y) = R := ⟨_, rfl⟩
  rw [hR1] at g1 s1 hok ⊢
  obtain ⟨a1, a2, a3, a4⟩ := g1
  by_cases h1 : R1.1 = 0
  · rw [if_pos h1] at hok; omega
  rw [if_neg h1] at hok ⊢
  obtain ⟨c1, c2, c3, c4, c5, c6, c7, c8⟩ := a4 (by omega)
  obtain ⟨S1, T1⟩ := s1 (by omega)
  by_cases h2 : isc B z sep (sA R1.2)
  · rw [if_pos h2] at hok ⊢
    have g2 := hg (pMid R1.2 (sB p) kd x y)
    have s2 := hrec (pMid R1.2 (sB p) kd x y)
    obtain ⟨R2, hR2⟩ : ∃ R, rec (pMid R1.2 (sB p) kd x y) = R := ⟨_, rfl⟩
    rw [hR2] at g2 s2 hok ⊢
    obtain ⟨d1, d2, d3, d4⟩ := g2
    by_cases h3 : R2.1 = 0
    · rw [if_pos h3] at hok; omega
    rw [if_neg h3] at hok ⊢
    obtain ⟨f1, f2, f3, f4, f5, f6, f7, f8⟩ := d4 (by omega)
    obtain ⟨S2, T2⟩ := s2 (by omega)
    by_cases h4 : isc B z cl (sA R2.2)
    · rw [if_pos h4] at hok ⊢
      have x1 : sB (pOpen p len kd x y) = sB p + 1 := rfl
      have x2 : sC (pOpen p len kd x y) = sC p := rfl
      have x4 : sB (pMid R1.2 (sB p) kd x y) = sB R1.2 := rfl
      have x5 : sC (pMid R1.2 (sB p) kd x y) = sC R1.2 := rfl
      have x7 : sQ (pMid R1.2 (sB p) kd x y) = sQ R1.2 := rfl
      have x9 : sQ (pOpen p len kd x y) = sQ p + (if kd = 1 then 1 else 0) := rfl
      rw [x1] at c2 c3 c7 S1 T1
      rw [x2] at c3 c4 c8 S1
      rw [x9] at S1 T1
      rw [x4] at f2 f3 f7 S2 T2
      rw [x5] at f3 f4 f8 S2
      rw [x7] at S2 T2
      -- the end
      have y1 : sT (pEnd R2.2 (sB p) kd x y (sC R1.2)) = sT R2.2 := rfl
      have y2 : sU (pEnd R2.2 (sB p) kd x y (sC R1.2)) = updN (sU R2.2) (sC R2.2) (kd, sC R1.2 - 1, sC R2.2 - 1, x, y) := rfl
      have y3 : sW (pEnd R2.2 (sB p) kd x y (sC R1.2)) = updN (sW R2.2) (sB p) (sC R2.2) := rfl
      have y4 : sB (pEnd R2.2 (sB p) kd x y (sC R1.2)) = sB R2.2 := rfl
      have y5 : sC (pEnd R2.2 (sB p) kd x y (sC R1.2)) = sC R2.2 + 1 := rfl
      have y6 : sQ (pEnd R2.2 (sB p) kd x y (sC R1.2)) = sQ R2.2 := rfl
      have mT : ∀ j, sT (pMid R1.2 (sB p) kd x y) j = updN (sT R1.2) (sB p) (kd, 0, sB R1.2, x, y) j := fun j => rfl
      have mW : ∀ j, sW (pMid R1.2 (sB p) kd x y) j = sW R1.2 j := fun j => rfl
      have mU : ∀ j, sU (pMid R1.2 (sB p) kd x y) j = sU R1.2 j := fun j => rfl
      have root : sT R2.2 (sB p) = (kd, 0, sB R1.2, x, y) := by rw [(f7 (sB p) (by omega)).1, mT, updN_s]
      have first : SEG (sT R2.2) (updN (sU R2.2) (sC R2.2) (kd, sC R1.2 - 1, sC R2.2 - 1, x, y)) (updN (sW R2.2) (sB p) (sC R2.2)) (sQ p + (if kd = 1 then 1 else 0)) (sB p + 1) (sB R1.2) (sC p) (sC R1.2) := by
        refine S1.cg c2 (fun j j1 j2 => ?_) (fun j j1 j2 => ?_) (fun j j1 j2 => ?_)
        · rw [(f7 j j2).1, mT, updN_n (by omega)]
        · rw [updN_n (by omega), f8 j j2, mU]
        · rw [updN_n (by omega), (f7 j j2).2, mW]
      have second : SEG (sT R2.2) (updN (sU R2.2) (sC R2.2) (kd, sC R1.2 - 1, sC R2.2 - 1, x, y)) (updN (sW R2.2) (sB p) (sC R2.2)) (sQ R1.2) (sB R1.2) (sB R2.2) (sC R1.2) (sC R2.2) := by
        refine S2.cg f2 (fun j _ _ => rfl) (fun j j1 j2 => ?_) (fun j j1 j2 => ?_)
        · rw [updN_n (by omega)]
        · rw [updN_n (by omega)]
      have wr : updN (sW R2.2) (sB p) (sC R2.2) (sB p) = sC R2.2 := updN_s
      have ur : updN (sU R2.2) (sC R2.2) (kd, sC R1.2 - 1, sC R2.2 - 1, x, y) (sC R2.2) = (kd, sC R1.2 - 1, sC R2.2 - 1, x, y) := updN_s
      -- QUESTIONS
      have q1 : sQ R1.2 + qah (sT R2.2) (sB p + 1) = sQ p + (if kd = 1 then 1 else 0) + qah (sT R2.2) (sB R1.2) := by
        have e := qah_d (t := sT R2.2) (t' := sT R1.2) (b := sB p + 1) (n := sB R1.2) (by omega) (fun j j1 j2 => by rw [(f7 j j2).1, mT, updN_n (by omega)])
        have := T1
        unfold SEGQ at this
        omega
      have q2 : sQ R2.2 + qah (sT R2.2) (sB R1.2) = sQ R1.2 + qah (sT R2.2) (sB R2.2) := T2
      have q0 : qah (sT R2.2) (sB p + 1) = qah (sT R2.2) (sB p) + (if kd = 1 then 1 else 0) := by rw [qah_s, root]
      rw [y1, y2, y3, y4, y5, y6]
      obtain ⟨A1, A2, A3, A4⟩ := first
      obtain ⟨B1, B2, B3, B4⟩ := second
      refine ⟨⟨by rw [wr], fun j j1 j2 => ?_, fun m m1 m2 => ?_, fun j j1 j2 => ?_⟩, ?_⟩
      · rcases Nat.eq_or_lt_of_le j1 with e | e
        · rw [← e, wr]; omega
        · by_cases hj : j < sB R1.2
          · have := A2 j e hj; omega
          · have := B2 j (by omega) j2; omega
      · by_cases e : m = sC R2.2
        · exact ⟨sB p, Nat.le_refl _, by omega, by rw [wr, e]⟩
        · by_cases hm : m < sC R1.2
          · obtain ⟨n, n1, n2, n3⟩ := A3 m m1 hm
            exact ⟨n, by omega, by omega, n3⟩
          · obtain ⟨n, n1, n2, n3⟩ := B3 m (by omega) (by omega)
            exact ⟨n, by omega, n2, n3⟩
      · rcases Nat.eq_or_lt_of_le j1 with e | e
        · rw [← e, wr, root, ur]
          have v1 := A2 (sB p + 1) (Nat.le_refl _) c2
          have v2 := B2 (sB R1.2) (Nat.le_refl _) f2
          refine ⟨by omega, rfl, rfl, rfl, fun k => ?_, fun k => ?_, fun _ => ⟨by omega, by show sB p < sB R1.2; omega, f2, ?_, ?_, by omega, ?_⟩, fun k => ?_⟩
          · have k' : kd = 0 := k
            omega
          · have k' : kd = 2 := k
            rcases hkd with ⟨h, _⟩ | ⟨_, h⟩
            · omega
            · exact h
          · show sC R1.2 - 1 = _; omega
          · show sC R2.2 - 1 = updN (sW R2.2) (sB p) (sC R2.2) (sB R1.2); omega
          · show updN (sW R2.2) (sB p) (sC R2.2) (sB R1.2) < _; omega
          · have k' : kd = 1 := k
            rcases hkd with ⟨_, h⟩ | ⟨h, _⟩
            · show x + _ = _; rw [h]
            · omega
        · by_cases hj : j < sB R1.2
          · obtain ⟨g0, g1, g2, g3, g4, g5, g6, g7⟩ := A4 j e hj
            refine ⟨g0, g1, g2, g3, g4, g5, fun k => ?_, fun k => ?_⟩
            · obtain ⟨k1, k2, k3, k4, k5, k6, k7⟩ := g6 k
              exact ⟨by omega, k2, by omega, k4, k5, k6, k7⟩
            · have := g7 k
              omega
          · obtain ⟨g0, g1, g2, g3, g4, g5, g6, g7⟩ := B4 j (by omega) j2
            refine ⟨g0, g1, g2, g3, g4, g5, g6, fun k => ?_⟩
            have := g7 k
            omega
      · show sQ R2.2 + qah (sT R2.2) (sB p) = sQ p + qah (sT R2.2) (sB R2.2)
        omega
    · rw [if_neg h4] at hok
      exact absurd hok (show ¬ (0 : Nat) = 1 by decide)
  · rw [if_neg h2] at hok
    exact absurd hok (show ¬ (0 : Nat) = 1 by decide)
theorem pp_SEG {B : Nat → Nat} {z n : Nat} (hn : n ≤ 7) : ∀ r p, (pp B z n r p).1 = 1 → SEG (sT (pp B z n r p).2) (sU (pp B z n r p).2) (sW (pp B z n r p).2) (sQ p) (sB p) (sB (pp B z n r p).2) (sC p) (sC (pp B z n r p).2) ∧ SEGQ (sT (pp B z n r p).2) (sQ p) (sQ (pp B z n r p).2) (sB p) (sB (pp B z n r p).2) := by
  intro r
  induction r with
  | zero =>
    intro p
    unfold pp
    by_cases h : isd B z n (sA p)
    · rw [if_pos h]; exact fun _ => SEG_leaf h hn
    · rw [if_neg h]; exact fun q => absurd q (show ¬ (0 : Nat) = 1 by decide)
  | succ r ih =>
    intro p
    unfold pp
    by_cases h1 : isc B z 40 (sA p)
    · rw [if_pos h1]; exact SEG_pair (fun q => pp_good r q) ih (Or.inl ⟨rfl, rfl⟩)
    rw [if_neg h1]
    by_cases h2 : isc B z 123 (sA p)
    · rw [if_pos h2]
      by_cases h3 : isd B z n (sA p + 1)
      · rw [if_pos h3]
        by_cases h4 : isc B z 62 (sA p + 2)
        · rw [if_pos h4]
          by_cases h5 : isd B z n (sA p + 3)
          · rw [if_pos h5]
            by_cases h6 : isc B z 58 (sA p + 4)
            · rw [if_pos h6]; exact SEG_pair (fun q => pp_good r q) ih (Or.inr ⟨rfl, by have := h3.2.2; omega, by have := h5.2.2; omega⟩)
            · rw [if_neg h6]; exact fun q => absurd q (show ¬ (0 : Nat) = 1 by decide)
          · rw [if_neg h5]; exact fun q => absurd q (show ¬ (0 : Nat) = 1 by decide)
        · rw [if_neg h4]; exact fun q => absurd q (show ¬ (0 : Nat) = 1 by decide)
      · rw [if_neg h3]; exact fun q => absurd q (show ¬ (0 : Nat) = 1 by decide)
    rw [if_neg h2]
    by_cases h : isd B z n (sA p)
    · rw [if_pos h]; exact fun _ => SEG_leaf h hn
    · rw [if_neg h]; exact fun q => absurd q (show ¬ (0 : Nat) = 1 by decide)
