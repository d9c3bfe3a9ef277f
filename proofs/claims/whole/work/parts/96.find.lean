/-! the reference finds its k-th row -/
/-- how many below y are not of a set -/
def unu (u : Nat) : Nat → Nat
  | 0 => 0
  | y + 1 => unu u y + (if btn u y then 0 else 1)
theorem unu_mono {u c : Nat} : ∀ k, unu u c ≤ unu u (c + k) := by
  intro k
  induction k with
  | zero => exact Nat.le_refl _
  | succ k ih => show _ ≤ unu u (c + k) + _; omega
theorem unu_le {u : Nat} : ∀ y, unu u y ≤ y := by
  intro y
  induction y with
  | zero => exact Nat.le_refl _
  | succ y ih => show unu u y + (if btn u y then 0 else 1) ≤ y + 1; split <;> omega
/-- the number of a row of n, of its last m places -/
def rkr (r : Nat → Nat) (n : Nat) : Nat → Nat
  | 0 => 0
  | m + 1 => unu (met r (n - 1 - m)) (r (n - 1 - m)) * fct m + rkr r n m
/-- r is the k-th row of n -/
def isrow (n k : Nat) (r : Nat → Nat) : Prop := rowok n r n ∧ (∀ m, m ≤ n → rkr r n m < fct m) ∧ rkr r n n = k
theorem fct_div {m : Nat} : fct (m + 1) / (m + 1) = fct m := by
  show fct m * (m + 1) / (m + 1) = fct m
  exact Nat.mul_div_cancel _ (Nat.succ_pos m)
section
variable {X : pm_X} {PR : pm_P} {s : QST} {Q : QPost}
theorem w_findOrder (hP : pm_np PR) {d : Nat} (hd : 1 ≤ d) {n k : Nat} {r : Nat → Nat} (e0 : qE s 164 0 = nI n) (hn : n ≤ 7) (hr : isrow n k r) (hk : ∀ s', rfr s s' → (∀ c, c ≠ 191 → qE s' c = qE s c) → qF s' 163 45 = nI n → (∀ j, j < n → qE s' 191 j = nI (r j)) → Q none s') : qP X PR d 222 [.ref 163, .int (nI k), .int (nI (fct n))] s Q := by
  obtain ⟨h1, h2, h3⟩ := hr
  subst h3
  refine qP.of (L := [_, _, _, _, _, _, _, _, _]) (by omega) (hP _ rfl) ms_Model_findOrder rfl ?_
  show qW X PR (d - 1) (none) cd_Model_findOrder 0 _ _ _ _
  have loop : ∀ (m i : Nat) (s1 : QST) (L7 L8 : Option Value), i + m = n → rfr s s1 → (∀ c, c ≠ 191 → qE s1 c = qE s c) → qF s1 163 45 = nI n → (∀ j, j < i → qE s1 191 j = nI (r j)) → qW X PR (d - 1) (none) cd_Model_findOrder 1 [some (.ref (163)), some (.int (nI (rkr r n n))), some (.int (nI (fct n))), some (.int (nI (rkr r n m))), some (.int (nI (fct m))), some (.int (nI (met r i))), some (.int (nI i)), L7, L8] [] s1 Q := by
    intro m
    induction m with
    | zero =>
      intro i s1 L7 L8 hi F1 g1 g2 g3
      have e : i = n := by omega
      subst e
      refine qW.blk rfl ?_
      refine qv_iload rfl ?_
      refine qv_aload rfl ?_
      refine qv_gi ly_163 ⟨rfl, rfl, rfl⟩ (g2) ?_
      refine qv_icmp_geNt rfl rfl (by omega) (by omega) (by omega) (tgt := 10) rfl ?_
      refine qW.blk rfl ?_
      refine qv_ret rfl ?_
      exact hk s1 F1 g1 g2 g3
    | succ m ih =>
      intro i s1 L7 L8 hi F1 g1 g2 g3
      have ei : n - 1 - m = i := by omega
      obtain ⟨f1, f2⟩ := fct7 m (by omega)
      obtain ⟨f3, f4⟩ := fct7 (m + 1) (by omega)
      have hlm := h2 m (by omega)
      have hlm1 := h2 (m + 1) (by omega)
      have er : rkr r n (m + 1) = unu (met r i) (r i) * fct m + rkr r n m := by show unu (met r (n - 1 - m)) (r (n - 1 - m)) * fct m + rkr r n m = _; rw [ei]
      have ri := h1.1 i (by omega)
      have q1 : rkr r n (m + 1) / fct m = unu (met r i) (r i) := by rw [er, Nat.mul_comm, Nat.mul_add_div f2, Nat.div_eq_of_lt hlm, Nat.add_zero]
      have q2 : rkr r n (m + 1) % fct m = rkr r n m := by rw [er, Nat.mul_comm, Nat.mul_add_mod, Nat.mod_eq_of_lt hlm]
      have q3 : fct (m + 1) / (n - i) = fct m := by rw [show n - i = m + 1 by omega]; exact fct_div
      obtain ⟨m1, m2⟩ := met_btn (n := n) (l := r) hn i (fun j hj => h1.1 j (by omega))
      have nb : ¬ btn (met r i) (r i) := fun q => by
        obtain ⟨j, a, b⟩ := (m2 _).mp q
        exact h1.2 j i a (by omega) b
      have hu := unu_le (u := met r i) (r i)
      have inner : ∀ (c x : Nat), x + c = r i → qW X PR (d - 1) (none) cd_Model_findOrder 3 [some (.ref (163)), some (.int (nI (rkr r n n))), some (.int (nI (fct n))), some (.int (nI (rkr r n m))), some (.int (nI (fct m))), some (.int (nI (met r i))), some (.int (nI i)), some (.int (nI (unu (met r i) (r i) - unu (met r i) x))), some (.int (nI x))] [] s1 Q := by
        intro c
        induction c with
        | zero =>
          intro x hx
          have e : x = r i := by omega
          subst e
          rw [Nat.sub_self]
          refine qW.blk rfl ?_
          refine qv_iload rfl ?_
          refine qv_iload rfl ?_
          refine qv_ishr ?_
          refine qv_iconst (v := 1) rfl ?_
          refine qv_iand ?_
          refine qv_iconst (v := 1) rfl ?_
          refine qv_icmp_eq_f (fun q => nb ((bit_is (by omega) (by omega)).mp q)) (nx := 4) rfl ?_
          refine qW.blk rfl ?_
          refine qv_iload rfl ?_
          refine qv_if_le_t (by decide) (tgt := 9) rfl ?_
          refine qW.blk rfl ?_
          refine qv_iload rfl ?_
          refine qv_iconst (v := 1) rfl ?_
          refine qv_iload rfl ?_
          refine qv_ishl ?_
          refine qv_ior ?_
          refine qv_top ((or7 (by omega) m1).1) ?_
          refine qv_istore (L' := [_, _, _, _, _, _, _, _, _]) rfl ?_
          refine qv_aload rfl ?_
          refine qv_gr ly_163 ⟨rfl, rfl, rfl⟩ (by omega) ?_
          refine qv_iload rfl ?_
          refine qv_iload rfl ?_
          refine qv_is ly_191 rfl (by omega) (by decide) ?_
          refine qv_iinc (L' := [_, _, _, _, _, _, _, _, _]) rfl (nI_succ _).symm rfl ?_
          refine qv_goto (tgt := 1) rfl ?_
          refine ih (i + 1) _ _ _ (by omega) (F1.sE (by omega)) (fun c hc => by rw [qE_uEc hc]; exact g1 c hc) g2 (fun j hj => ?_)
          by_cases e : j = i
          · subst e; rw [qE_uEs]
          · rw [qE_uEk e]; exact g3 j (by omega)
        | succ c ihc =>
          intro x hx
          have nx := ihc (x + 1) (by omega)
          have hmo := unu_mono (u := met r i) (c := x + 1) c
          rw [show x + 1 + c = r i by omega] at hmo
          by_cases hb : btn (met r i) x
          · have e : unu (met r i) (x + 1) = unu (met r i) x := by show unu (met r i) x + (if btn (met r i) x then 0 else 1) = _; rw [if_pos hb, Nat.add_zero]
            rw [e] at nx hmo
            refine qW.blk rfl ?_
            refine qv_iload rfl ?_
            refine qv_iload rfl ?_
            refine qv_ishr ?_
            refine qv_iconst (v := 1) rfl ?_
            refine qv_iand ?_
            refine qv_iconst (v := 1) rfl ?_
            refine qv_icmp_eq_t ((bit_is (by omega) (by omega)).mpr hb) (tgt := 5) rfl ?_
            refine qW.blk rfl ?_
            refine qv_iload rfl ?_
            refine qv_iload rfl ?_
            refine qv_iload rfl ?_
            refine qv_ishr ?_
            refine qv_iconst (v := 1) rfl ?_
            refine qv_iand ?_
            refine qv_iconst (v := 1) rfl ?_
            refine qv_icmp_ne_f (fun q => q ((bit_is (by omega) (by omega)).mpr hb)) (nx := 6) rfl ?_
            refine qW.blk rfl ?_
            refine qv_iconst (v := 0) rfl ?_
            refine qv_goto (tgt := 8) rfl ?_
            refine qW.blk rfl ?_
            refine qv_isubN (q := 0) rfl rfl (by omega) ?_
            refine qv_istore (L' := [_, _, _, _, _, _, _, _, _]) rfl ?_
            refine qv_iinc (L' := [_, _, _, _, _, _, _, _, _]) rfl (nI_succ _).symm rfl ?_
            refine qv_goto (tgt := 3) rfl ?_
            exact nx
          · have e : unu (met r i) (x + 1) = unu (met r i) x + 1 := by show unu (met r i) x + (if btn (met r i) x then 0 else 1) = _; rw [if_neg hb]
            rw [e] at nx hmo
            rw [show unu (met r i) (r i) - (unu (met r i) x + 1) = unu (met r i) (r i) - unu (met r i) x - 1 by omega] at nx
            refine qW.blk rfl ?_
            refine qv_iload rfl ?_
            refine qv_iload rfl ?_
            refine qv_ishr ?_
            refine qv_iconst (v := 1) rfl ?_
            refine qv_iand ?_
            refine qv_iconst (v := 1) rfl ?_
            refine qv_icmp_eq_f (fun q => hb ((bit_is (by omega) (by omega)).mp q)) (nx := 4) rfl ?_
            refine qW.blk rfl ?_
            refine qv_iload rfl ?_
            refine qv_if_le_f (nI_nle (by omega) (by omega)) (nx := 5) rfl ?_
            refine qW.blk rfl ?_
            refine qv_iload rfl ?_
            refine qv_iload rfl ?_
            refine qv_iload rfl ?_
            refine qv_ishr ?_
            refine qv_iconst (v := 1) rfl ?_
            refine qv_iand ?_
            refine qv_iconst (v := 1) rfl ?_
            refine qv_icmp_ne_t (fun q => hb ((bit_is (by omega) (by omega)).mp q)) (tgt := 7) rfl ?_
            refine qW.blk rfl ?_
            refine qv_iconst (v := 1) rfl ?_
            refine qv_nil (nx := 8) rfl ?_
            refine qW.blk rfl ?_
            refine qv_isubN (q := 1) rfl rfl (by omega) ?_
            refine qv_istore (L' := [_, _, _, _, _, _, _, _, _]) rfl ?_
            refine qv_iinc (L' := [_, _, _, _, _, _, _, _, _]) rfl (nI_succ _).symm rfl ?_
            refine qv_goto (tgt := 3) rfl ?_
            exact nx
      have nx := inner (r i) 0 (by omega)
      rw [show unu (met r i) 0 = 0 from rfl, Nat.sub_zero] at nx
      refine qW.blk rfl ?_
      refine qv_iload rfl ?_
      refine qv_aload rfl ?_
      refine qv_gi ly_163 ⟨rfl, rfl, rfl⟩ (g2) ?_
      refine qv_icmp_geNf rfl rfl (by omega) (by omega) (by omega) (nx := 2) rfl ?_
      refine qW.blk rfl ?_
      refine qv_iload rfl ?_
      refine qv_aload rfl ?_
      refine qv_gi ly_163 ⟨rfl, rfl, rfl⟩ (g2) ?_
      refine qv_iload rfl ?_
      refine qv_isubN rfl rfl (by omega) ?_
      refine qv_idivN rfl rfl (by omega) (by omega) (by omega) ?_
      refine qv_top (congrArg nI q3) ?_
      refine qv_istore (L' := [_, _, _, _, _, _, _, _, _]) rfl ?_
      refine qv_iload rfl ?_
      refine qv_iload rfl ?_
      refine qv_idivN rfl rfl (by omega) (by omega) (by omega) ?_
      refine qv_top (congrArg nI q1) ?_
      refine qv_istore (L' := [_, _, _, _, _, _, _, _, _]) rfl ?_
      refine qv_iload rfl ?_
      refine qv_iload rfl ?_
      refine qv_iremN rfl rfl (by omega) (by omega) (by omega) ?_
      refine qv_top (congrArg nI q2) ?_
      refine qv_istore (L' := [_, _, _, _, _, _, _, _, _]) rfl ?_
      refine qv_iconst (v := 0) rfl ?_
      refine qv_istore (L' := [_, _, _, _, _, _, _, _, _]) rfl ?_
      refine qv_nil (nx := 3) rfl ?_
      exact nx
  refine qW.blk rfl ?_
  refine qv_iload rfl ?_
  refine qv_istore (L' := [_, _, _, _, _, _, _, _, _]) rfl ?_
  refine qv_iload rfl ?_
  refine qv_istore (L' := [_, _, _, _, _, _, _, _, _]) rfl ?_
  refine qv_iconst (v := 0) rfl ?_
  refine qv_istore (L' := [_, _, _, _, _, _, _, _, _]) rfl ?_
  refine qv_aload rfl ?_
  refine qv_aload rfl ?_
  refine qv_gr ly_163 ⟨rfl, rfl, rfl⟩ (by omega) ?_
  refine qv_iconst (v := 0) rfl ?_
  refine qv_ia (j := 0) ly_164 rfl (by omega) (by decide) (e0) ?_
  refine qv_pi ly_163 ⟨rfl, rfl, rfl⟩ (rfl) ?_
  refine qv_iconst (v := 0) rfl ?_
  refine qv_istore (L' := [_, _, _, _, _, _, _, _, _]) rfl ?_
  refine qv_nil (nx := 1) rfl ?_
  refine loop n 0 _ _ _ (by omega) ((rfr.rf s).sF (by omega)) (fun c _ => rfl) qF_uFs (fun j hj => absurd hj (Nat.not_lt_zero _))
end
