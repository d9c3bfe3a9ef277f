/-! Arrays.fill, Integer.signum; the hall's stores -/
theorem pm_put_put {S : pm_S} {a : Nat} {e e' : va_E} : pm_put (pm_put S a e) a e' = pm_put S a e' := by
  simp [pm_put]
theorem pm_put_self {S : pm_S} {a : Nat} {e : va_E} (h : pm_h S a e) : pm_put S a e = S := by
  unfold pm_put
  have : S.1.set (a - 8) e = S.1 := by
    apply List.ext_getElem?
    intro i
    rw [List.getElem?_set]
    split
    · rename_i hi
      subst hi
      split
      · exact h.2.symm
      · rename_i hl
        rw [List.getElem?_eq_none (by omega)]
    · rfl
  rw [this]
theorem ms_Arrays_fill : pm_Ms[2]? = some md_Arrays_fill := rfl
theorem ms_Integer_signum : pm_Ms[0]? = some md_Integer_signum := rfl
theorem ms_Hall_drawLines : pm_Ms[16]? = some md_Hall_drawLines := rfl
theorem ms_Hall_sideOfBought : pm_Ms[18]? = some md_Hall_sideOfBought := rfl
theorem ms_Hall_voteOf : pm_Ms[17]? = some md_Hall_voteOf := rfl
theorem ms_Hall_votesFor : pm_Ms[15]? = some md_Hall_votesFor := rfl
/-- outside the hall's cells nothing changes -/
def hfr (S S' : pm_S) : Prop := S'.1.length = S.1.length ∧ S'.2 = S.2 ∧ ∀ (b : Nat) (e : va_E), ¬ (74 ≤ b ∧ b ≤ 110) → pm_h S b e → pm_h S' b e
theorem hfr.rf (S : pm_S) : hfr S S := ⟨rfl, rfl, fun _ _ _ h => h⟩
theorem hfr.trans {S T U : pm_S} (h : hfr S T) (g : hfr T U) : hfr S U := ⟨g.1.trans h.1, g.2.1.trans h.2.1, fun b e hb he => g.2.2 b e hb (h.2.2 b e hb he)⟩
theorem hfr.put {S : pm_S} {c : Nat} {e : va_E} (hc : 74 ≤ c ∧ c ≤ 110) : hfr S (pm_put S c e) := ⟨by simp [pm_put], rfl, fun b e' hb he => he.ne (fun z => hb (by omega)) (by omega)⟩
theorem MB.ne {S : pm_S} {A c : Nat} {f w u : Nat → Int32} {e : va_E} (h : MB S A f w u) (hc : 8 ≤ c) (h1 : A ≠ c ∧ A + 1 ≠ c ∧ A + 2 ≠ c) : MB (pm_put S c e) A f w u := ⟨h.1.ne h1.1 hc, h.2.1.ne h1.2.1 hc, h.2.2.ne h1.2.2 hc⟩
theorem HR.putB {S : pm_S} {z : Nat → Int32} {b f w u : Nat → Nat → Int32} (h : HR S z b f w u) (k : Nat) (hk : k < 8) (g : Nat → Int32) : HR (pm_put S (76 + k) (.inl (0, hsz k, .inl g))) z (va_up b k g) f w u := by
  obtain ⟨h1, ⟨g0, h2, h3⟩, h4, h5⟩ := h
  refine ⟨h1.ne (by omega) (by omega), ⟨g0, h2.ne (by omega) (by omega), h3⟩, fun j hj => ?_, fun m hm => (h5 m hm).ne (by omega) (by omega)⟩
  by_cases e : j = k
  · subst e
    have : va_up b j g j = g := by simp [va_up]
    rw [this]
    exact (h4 j hj).eq
  · have : va_up b k g j = b j := by simp [va_up, e]
    rw [this]
    exact (h4 j hj).ne (by omega) (by omega)
section
variable {X : pm_X} {PR : pm_P} {S : pm_S} {z : Nat → Int32} {b f w u : Nat → Nat → Int32} {N : Nat}
theorem HR.o (h : HR S z b f w u) : pm_h S 74 (.inr (1, hob z)) := h.1
theorem HR.ar (h : HR S z b f w u) (k : Nat) (hk : k < 8) : pm_h S (76 + k) (.inl (0, hsz k, .inl (b k))) := h.2.2.1 k hk
theorem HR.mb (h : HR S z b f w u) {m : Nat} (hm : m < 9) : MB S (84 + 3 * m) (f m) (w m) (u m) := h.2.2.2 m hm
theorem r_Arrays_fill (hP : pm_np PR) {d : Nat} (hd : 1 ≤ d) {A n : Nat} {g : Nat → Int32} (hA : pm_h S A (.inl (0, n, .inl g))) (hn : n < 2 ^ 31) (v : Int32) : pm_run X pm_Ms PR d 2 [.ref A, .int v] S = some (none, pm_put S A (.inl (0, n, .inl (fun j => if j < n then v else g j)))) := by
  refine pm_run_of (L := [_, _, _, _]) (by omega) (hP _ rfl) ms_Arrays_fill rfl ?_
  show pm_to _ _ _ (none) cd_Arrays_fill 0 _ _
  have loop : ∀ (k m : Nat), m + k = n → pm_to X pm_Ms (pm_run X pm_Ms PR (d - 1)) none cd_Arrays_fill 1 ([some (.ref A), some (.int v), some (.int (nI m)), some (.int (nI n))], [], pm_put S A (.inl (0, n, .inl (fun j => if j < m then v else g j)))) (none, pm_put S A (.inl (0, n, .inl (fun j => if j < n then v else g j)))) := by
    intro k
    induction k with
    | zero =>
      intro m hm
      have e : m = n := by omega
      subst e
      refine pm_to.blk rfl ?_
      refine pe_iload rfl ?_
      refine pe_iload rfl ?_
      refine pe_icmp_ge (tgt := 3) (nx := 2) rfl rfl (fun hc1 => ?_) (fun hc1 => ?_)
      · refine pm_to.blk rfl ?_
        exact pe_ret rfl rfl
      · exact absurd (nI_le (Nat.le_refl m) hn) hc1
    | succ k ih =>
      intro m hm
      refine pm_to.blk rfl ?_
      refine pe_iload rfl ?_
      refine pe_iload rfl ?_
      refine pe_icmp_ge (tgt := 3) (nx := 2) rfl rfl (fun hc1 => ?_) (fun hc1 => ?_)
      · exact absurd hc1 (nI_ge (by omega) hn)
      · refine pm_to.blk rfl ?_
        refine pe_aload rfl ?_
        refine pe_iload rfl ?_
        refine pe_iload rfl ?_
        refine pe_iastN hA.eq rfl (by omega) hn ?_
        refine pe_iinc (L' := [_, _, _, _]) rfl ((nI_succ m).symm) rfl ?_
        refine pe_goto (tgt := 1) rfl ?_
        rw [pm_put_put]
        have e : upd (fun j => if j < m then v else g j) m v = (fun j => if j < m + 1 then v else g j) := by
          funext j
          simp only [upd]
          by_cases hj : j = m
          · subst hj; simp
          · rw [if_neg hj]
            by_cases h2 : j < m
            · rw [if_pos h2, if_pos (by omega)]
            · rw [if_neg h2, if_neg (by omega)]
        rw [e]
        exact ih (m + 1) (by omega)
  have := loop n 0 (by omega)
  have e0 : (fun j => if j < 0 then v else g j) = g := by funext j; simp
  rw [e0, pm_put_self hA] at this
  refine pm_to.blk rfl ?_
  refine pe_iconst (v := 0) rfl ?_
  refine pe_istore (L' := [_, _, _, _]) rfl ?_
  refine pe_aload rfl ?_
  refine pe_alen hA ?_
  refine pe_istore (L' := [_, _, _, _]) rfl ?_
  refine pe_nil (nx := 1) rfl ?_
  exact this
theorem sig_ok : ∀ k, k < 100 → ((nI k >>> (31 &&& 31)) ||| ((-nI k).toUInt32 >>> ((31 : Int32).toUInt32 &&& Int32.toUInt32 31)).toInt32 = sg0 (nI k)) ∧ ((-nI k) >>> (31 &&& 31)) ||| ((- -nI k).toUInt32 >>> ((31 : Int32).toUInt32 &&& Int32.toUInt32 31)).toInt32 = sg0 (-nI k) := by
  decide
theorem r_Integer_signum (hP : pm_np PR) {d : Nat} (hd : 1 ≤ d) (x : Int32) (hx : -100 < x.toInt ∧ x.toInt < 100) : pm_run X pm_Ms PR d 0 [.int x] S = some (some (.int (sg0 x)), S) := by
  refine pm_run_of (L := [_]) (by omega) (hP _ rfl) ms_Integer_signum rfl ?_
  show pm_to _ _ _ (some .int) cd_Integer_signum 0 _ _
  have e : sg0 x = (x >>> (31 &&& 31)) ||| ((-x).toUInt32 >>> ((31 : Int32).toUInt32 &&& Int32.toUInt32 31)).toInt32 := by
    rcases Int.lt_or_le x.toInt 0 with h | h
    · obtain ⟨k, hk⟩ : ∃ k : Nat, x.toInt = -(k : Int) := ⟨(-x.toInt).toNat, by omega⟩
      have ex : x = -nI k := by
        apply Int32.toInt_inj.mp
        rw [hk, sb_negT (by omega)]
      rw [ex]
      exact ((sig_ok k (by omega)).2).symm
    · obtain ⟨k, hk⟩ : ∃ k : Nat, x.toInt = (k : Int) := ⟨x.toInt.toNat, by omega⟩
      have ex : x = nI k := by
        apply Int32.toInt_inj.mp
        rw [hk, nI_toInt (by omega)]
      rw [ex]
      exact ((sig_ok k (by omega)).1).symm
  rw [e]
  refine pm_to.blk rfl ?_
  refine pe_iload rfl ?_
  refine pe_iconst (v := 31) rfl ?_
  refine pe_ishr ?_
  refine pe_iload rfl ?_
  refine pe_ineg ?_
  refine pe_iconst (v := 31) rfl ?_
  refine pe_iushr ?_
  refine pe_ior ?_
  exact pe_iret rfl rfl
end
