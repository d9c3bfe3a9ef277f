/-! sets of members as bits: how many, which is the least of the fewest -/
def pc (x : Nat) : Nat := sumN (fun i => x / 2 ^ i % 2) 10
def bcx0 (x : Int32) : Int32 := x - (((x.toUInt32 >>> ((1 : Int32).toUInt32 &&& Int32.toUInt32 31)).toInt32) &&& 1431655765)
def bcx1 (x : Int32) : Int32 := (x &&& 858993459) + (((x.toUInt32 >>> ((2 : Int32).toUInt32 &&& Int32.toUInt32 31)).toInt32) &&& 858993459)
def bcx2 (x : Int32) : Int32 := (x + ((x.toUInt32 >>> ((4 : Int32).toUInt32 &&& Int32.toUInt32 31)).toInt32)) &&& 252645135
def bcx3 (x : Int32) : Int32 := x + ((x.toUInt32 >>> ((8 : Int32).toUInt32 &&& Int32.toUInt32 31)).toInt32)
def bcx4 (x : Int32) : Int32 := x + ((x.toUInt32 >>> ((16 : Int32).toUInt32 &&& Int32.toUInt32 31)).toInt32)
theorem bcx_ok : ∀ x, x < 512 → bcx4 (bcx3 (bcx2 (bcx1 (bcx0 (nI x))))) &&& 63 = nI (pc x) := by decide +kernel
theorem sumN_le {f g : Nat → Nat} : ∀ n, (∀ i, i < n → f i ≤ g i) → sumN f n ≤ sumN g n := by
  intro n
  induction n with
  | zero => intro _; exact Nat.le_refl _
  | succ n ih => intro h; have := ih (fun i hi => h i (by omega)); have := h n (by omega); show sumN f n + f n ≤ sumN g n + g n; omega
/-- x is within y -/
def subI (x y : Nat) : Prop := nI x &&& (nI y ^^^ (-1)) = 0
theorem subI_bit {x y : Nat} (hx : x < 2 ^ 31) (hy : y < 2 ^ 31) (h : subI x y) : ∀ i, x.testBit i = true → y.testBit i = true := by
  intro i hi
  have h1 := congrArg (fun z : Int32 => z.toBitVec.toNat) h
  have e1 : (nI x &&& (nI y ^^^ (-1))).toBitVec.toNat = x &&& (y ^^^ 4294967295) := by
    rw [Int32.toBitVec_and, Int32.toBitVec_xor, BitVec.toNat_and, BitVec.toNat_xor, pk_tn (by omega), pk_tn (by omega)]
    rfl
  have h2 : x &&& (y ^^^ 4294967295) = 0 := by rw [← e1]; exact h1
  have h3 := congrArg (fun z => Nat.testBit z i) h2
  simp only [Nat.testBit_and, Nat.testBit_xor, hi, Nat.zero_testBit, Bool.true_and] at h3
  have hi32 : i < 32 := by
    rcases Nat.lt_or_ge i 32 with q | q
    · exact q
    · have := Nat.testBit_lt_two_pow (x := x) (i := i) (Nat.lt_of_lt_of_le hx (Nat.pow_le_pow_right (by omega) (by omega)))
      rw [this] at hi; cases hi
  have e2 : Nat.testBit 4294967295 i = true := by
    rw [show (4294967295 : Nat) = 2 ^ 32 - 1 from rfl, Nat.testBit_two_pow_sub_one]
    exact decide_eq_true hi32
  rw [e2] at h3
  cases hy' : y.testBit i with
  | true => rfl
  | false => rw [hy'] at h3; cases h3
theorem subI_le {x y : Nat} (hx : x < 2 ^ 31) (hy : y < 2 ^ 31) (h : subI x y) : x ≤ y := by
  have e : x &&& y = x := by
    apply Nat.eq_of_testBit_eq
    intro i
    rw [Nat.testBit_and]
    cases hi : x.testBit i with
    | true => rw [subI_bit hx hy h i hi]; rfl
    | false => rfl
  rw [← e]
  exact Nat.and_le_right
theorem subI_pc {x y : Nat} (hx : x < 2 ^ 31) (hy : y < 2 ^ 31) (h : subI x y) : pc x ≤ pc y := by
  refine sumN_le 10 (fun i _ => ?_)
  by_cases hi : x / 2 ^ i % 2 = 1
  · have h1 : x.testBit i = true := by rw [Nat.testBit_eq_decide_div_mod_eq]; exact decide_eq_true hi
    have h2 := subI_bit hx hy h i h1
    rw [Nat.testBit_eq_decide_div_mod_eq] at h2
    have h3 := of_decide_eq_true h2
    show x / 2 ^ i % 2 ≤ y / 2 ^ i % 2
    omega
  · show x / 2 ^ i % 2 ≤ y / 2 ^ i % 2
    omega
theorem subI_all : ∀ n, n < 10 → ∀ x, x < 512 → x < 2 ^ n → nI x &&& (nI (2 ^ n - 1) ^^^ (-1)) = 0 := by decide +kernel
theorem pow9 : ∀ n, n < 10 → (1 <<< (nI n &&& 31) : Int32) = nI (2 ^ n) ∧ 2 ^ n ≤ 512 ∧ nI (2 ^ n) - 1 = nI (2 ^ n - 1) := by decide +kernel
theorem or_bit9 : ∀ n, n < 9 → ∀ b, b < 512 → b < 2 ^ n → nI b ||| (1 <<< (nI n &&& 31)) = nI (b + 2 ^ n) := by decide +kernel
theorem bsN_or9 {P : Nat → Prop} [∀ x, Decidable (P x)] {n : Nat} (h : n < 9) : (P n → nI (bsN P n) ||| (1 <<< (nI n &&& 31)) = nI (bsN P (n + 1))) ∧ (¬ P n → bsN P n = bsN P (n + 1)) := by
  refine ⟨fun hp => ?_, fun hp => ?_⟩
  · have h1 := bsN_lt (P := P) n
    have h2 := (pow9 n (by omega)).2.1
    rw [or_bit9 n h _ (by omega) h1]
    show _ = nI (if P n then bsN P n + 2 ^ n else bsN P n)
    rw [if_pos hp]
  · show bsN P n = (if P n then bsN P n + 2 ^ n else bsN P n)
    rw [if_neg hp]
/-- the least of the fewest below n -/
def isBest (P : Nat → Prop) (n b : Nat) : Prop := b < n ∧ P b ∧ ∀ x, x < n → P x → pc b < pc x ∨ (pc b = pc x ∧ b ≤ x)
theorem best_ex (P : Nat → Prop) : ∀ n, (∀ x, x < n → ¬ P x) ∨ ∃ b, isBest P n b := by
  intro n
  induction n with
  | zero => exact Or.inl (fun x h => by omega)
  | succ n ih =>
    by_cases hp : P n
    · rcases ih with h | ⟨b, h1, h2, h3⟩
      · refine Or.inr ⟨n, by omega, hp, fun x hx hpx => ?_⟩
        have : x = n := by
          rcases Nat.lt_or_ge x n with q | q
          · exact absurd hpx (h x q)
          · omega
        subst this
        exact Or.inr ⟨rfl, Nat.le_refl _⟩
      · by_cases hlt : pc n < pc b
        · refine Or.inr ⟨n, by omega, hp, fun x hx hpx => ?_⟩
          rcases Nat.lt_or_ge x n with q | q
          · rcases h3 x q hpx with h | ⟨h, _⟩
            · exact Or.inl (by omega)
            · exact Or.inl (by omega)
          · have : x = n := by omega
            subst this
            exact Or.inr ⟨rfl, Nat.le_refl _⟩
        · refine Or.inr ⟨b, by omega, h2, fun x hx hpx => ?_⟩
          rcases Nat.lt_or_ge x n with q | q
          · exact h3 x q hpx
          · have : x = n := by omega
            subst this
            rcases Nat.lt_or_ge (pc b) (pc x) with r | r
            · exact Or.inl r
            · exact Or.inr ⟨by omega, by omega⟩
    · rcases ih with h | ⟨b, h1, h2, h3⟩
      · refine Or.inl (fun x hx hpx => ?_)
        rcases Nat.lt_or_ge x n with q | q
        · exact h x q hpx
        · have : x = n := by omega
          subst this
          exact hp hpx
      · refine Or.inr ⟨b, by omega, h2, fun x hx hpx => ?_⟩
        rcases Nat.lt_or_ge x n with q | q
        · exact h3 x q hpx
        · have : x = n := by omega
          subst this
          exact absurd hpx hp
section
variable {X : pm_X} {PR : pm_P} {s : QST} {Q : QPost}
theorem w_bitCount (hP : pm_np PR) {d : Nat} (hd : 1 ≤ d) {x : Nat} (hx : x < 512) (hk : Q (some (.int (nI (pc x)))) s) : qP X PR d 1 [.int (nI x)] s Q := by
  rw [← bcx_ok x hx] at hk
  refine qP.of (L := [_]) (by omega) (hP _ rfl) ms_Integer_bitCount rfl ?_
  show qW X PR (d - 1) (some .int) cd_Integer_bitCount 0 _ _ _ _
  refine qW.blk rfl ?_
  refine qv_iload rfl ?_
  refine qv_iload rfl ?_
  refine qv_iconst (v := 1) rfl ?_
  refine qv_iushr ?_
  refine qv_iconst (v := 1431655765) rfl ?_
  refine qv_iand ?_
  refine qv_isub ?_
  refine qv_istore (L' := [_]) rfl ?_
  refine qv_iload rfl ?_
  refine qv_iconst (v := 858993459) rfl ?_
  refine qv_iand ?_
  refine qv_iload rfl ?_
  refine qv_iconst (v := 2) rfl ?_
  refine qv_iushr ?_
  refine qv_iconst (v := 858993459) rfl ?_
  refine qv_iand ?_
  refine qv_iadd ?_
  refine qv_istore (L' := [_]) rfl ?_
  refine qv_iload rfl ?_
  refine qv_iload rfl ?_
  refine qv_iconst (v := 4) rfl ?_
  refine qv_iushr ?_
  refine qv_iadd ?_
  refine qv_iconst (v := 252645135) rfl ?_
  refine qv_iand ?_
  refine qv_istore (L' := [_]) rfl ?_
  refine qv_iload rfl ?_
  refine qv_iload rfl ?_
  refine qv_iconst (v := 8) rfl ?_
  refine qv_iushr ?_
  refine qv_iadd ?_
  refine qv_istore (L' := [_]) rfl ?_
  refine qv_iload rfl ?_
  refine qv_iload rfl ?_
  refine qv_iconst (v := 16) rfl ?_
  refine qv_iushr ?_
  refine qv_iadd ?_
  refine qv_istore (L' := [_]) rfl ?_
  refine qv_iload rfl ?_
  refine qv_iconst (v := 63) rfl ?_
  refine qv_iand ?_
  refine qv_iret (rfl) ?_
  exact hk
theorem sumN_st {x : Nat} {i : Nat} (h : x / 2 ^ i = 0) : ∀ k, sumN (fun i => x / 2 ^ i % 2) (i + k) = sumN (fun i => x / 2 ^ i % 2) i := by
  intro k
  induction k with
  | zero => rfl
  | succ k ih =>
    show sumN (fun i => x / 2 ^ i % 2) (i + k) + x / 2 ^ (i + k) % 2 = _
    have : x / 2 ^ (i + k) = 0 := by rw [Nat.pow_add, ← Nat.div_div_eq_div_mul, h, Nat.zero_div]
    rw [ih, this]
    rfl
theorem w_M_ones (hP : pm_np PR) {d : Nat} (hd : 1 ≤ d) {x : Nat} (hx : x < 512) (hk : Q (some (.int (nI (pc x)))) s) : qP X PR d 233 [.int (nI x)] s Q := by
  refine qP.of (L := [_, _, _]) (by omega) (hP _ rfl) ms_Model_ones rfl ?_
  show qW X PR (d - 1) (some .int) cd_Model_ones 0 _ _ _ _
  have loop : ∀ (k i : Nat), i + k = 10 → qW X PR (d - 1) (some .int) cd_Model_ones 1 [some (.int (nI x)), some (.int (nI (sumN (fun i => x / 2 ^ i % 2) i))), some (.int (nI (x / 2 ^ i)))] [] s Q := by
    intro k
    induction k with
    | zero =>
      intro i hi
      have e : i = 10 := by omega
      subst e
      have e0 : x / 2 ^ 10 = 0 := Nat.div_eq_of_lt (by omega)
      rw [e0]
      refine qW.blk rfl ?_
      refine qv_iload rfl ?_
      refine qv_if_le_t (by decide) (tgt := 3) rfl ?_
      refine qW.blk rfl ?_
      refine qv_iload rfl ?_
      refine qv_iret (rfl) ?_
      exact hk
    | succ k ih =>
      intro i hi
      have hle := Nat.div_le_self x (2 ^ i)
      by_cases h0 : x / 2 ^ i = 0
      · have e := sumN_st h0 (10 - i)
        rw [show i + (10 - i) = 10 by omega] at e
        rw [h0]
        refine qW.blk rfl ?_
        refine qv_iload rfl ?_
        refine qv_if_le_t (by decide) (tgt := 3) rfl ?_
        refine qW.blk rfl ?_
        refine qv_iload rfl ?_
        refine qv_iret (rfl) ?_
        rw [← e]
        exact hk
      · have hlo : ∀ m, sumN (fun i => x / 2 ^ i % 2) m ≤ m := by
          intro m
          induction m with
          | zero => exact Nat.le_refl _
          | succ m ih => show sumN (fun i => x / 2 ^ i % 2) m + x / 2 ^ m % 2 ≤ m + 1; omega
        have e2 : x / 2 ^ i / 2 = x / 2 ^ (i + 1) := by rw [Nat.div_div_eq_div_mul, Nat.pow_succ]
        have nx := ih (i + 1) (by omega)
        rw [← e2] at nx
        refine qW.blk rfl ?_
        refine qv_iload rfl ?_
        refine qv_if_le_f (nI_nle (Nat.pos_of_ne_zero h0) (by omega)) (nx := 2) rfl ?_
        refine qW.blk rfl ?_
        refine qv_iload rfl ?_
        refine qv_iload rfl ?_
        refine qv_iconst (v := 2) rfl ?_
        refine qv_iremN (q := 2) rfl rfl (by omega) (by omega) (by omega) ?_
        refine qv_iaddN rfl rfl ?_
        refine qv_istore (L' := [_, _, _]) rfl ?_
        refine qv_iload rfl ?_
        refine qv_iconst (v := 2) rfl ?_
        refine qv_idivN (q := 2) rfl rfl (by omega) (by omega) (by omega) ?_
        refine qv_istore (L' := [_, _, _]) rfl ?_
        refine qv_goto (tgt := 1) rfl ?_
        exact nx
  refine qW.blk rfl ?_
  refine qv_iconst (v := 0) rfl ?_
  refine qv_istore (L' := [_, _, _]) rfl ?_
  refine qv_iload rfl ?_
  refine qv_istore (L' := [_, _, _]) rfl ?_
  refine qv_nil (nx := 1) rfl ?_
  have := loop 10 0 (by omega)
  rw [show x / 2 ^ 0 = x by rw [Nat.pow_zero, Nat.div_one]] at this
  exact this
end
