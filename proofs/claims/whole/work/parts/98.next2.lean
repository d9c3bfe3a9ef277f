/-! behind the last row there is none -/
section
variable {X : pm_X} {PR : pm_P} {s : QST} {Q : QPost}
theorem w_nextRow_n (hP : pm_np PR) {d : Nat} (hd : 2 ≤ d) {B a z : Nat} {p : Nat → Nat} (hB : qLY B (0, 7, [])) (hz : z ≤ 7) (hz2 : 2 ≤ z) (ha : a + 1 ≤ z) (h1 : ∀ x, x < z → qE s B x = nI (p x)) (hp : ∀ x, x < z → p x < 8) (hf : ∀ u, a ≤ u → u + 1 < z → p (u + 1) < p u) (hk : Q (some (.int 0)) s) : qP X PR d 64 [.ref B, .int (nI a), .int (nI z)] s Q := by
  refine qP.of (L := [_, _, _, _, _, _, _]) (by omega) (hP _ rfl) ms_Orders_nextRow rfl ?_
  show qW X PR (d - 1) (some .boolean) cd_Orders_nextRow 0 _ _ _ _
  have hlt : nI a - 1 < nI a := by
    rcases Nat.eq_zero_or_pos a with h | h
    · rw [h]; decide
    · obtain ⟨b, rfl⟩ : ∃ b, a = b + 1 := ⟨a - 1, by omega⟩
      rw [nI_dec]; exact nI_lt (by omega) (by omega)
  have loop : ∀ (c : Nat) (v : Int32), a + c < z → v = nI (a + c) - 1 → qW X PR (d - 1) (some .boolean) cd_Orders_nextRow 1 [some (.ref (B)), some (.int (nI a)), some (.int (nI z)), some (.int (v)), none, none, none] [] s Q := by
    intro c
    induction c with
    | zero =>
      intro v hc hv
      subst hv
      refine qW.blk rfl ?_
      refine qv_iload rfl ?_
      refine qv_iload rfl ?_
      refine qv_icmp_lt_t (hlt) (tgt := 4) rfl ?_
      refine qW.blk rfl ?_
      refine qv_iload rfl ?_
      refine qv_iload rfl ?_
      refine qv_icmp_ge_f (Int32.not_le.mpr hlt) (nx := 5) rfl ?_
      refine qW.blk rfl ?_
      refine qv_iconst (v := 0) rfl ?_
      refine qv_iret (by first | exact bI_ret | rfl) ?_
      exact hk
    | succ c ih =>
      intro v hc hv
      rw [show a + (c + 1) = a + c + 1 by omega, nI_dec] at hv
      subst hv
      have h2 := hf (a + c) (by omega) (by omega)
      have b1 := hp (a + c) (by omega)
      refine qW.blk rfl ?_
      refine qv_iload rfl ?_
      refine qv_iload rfl ?_
      refine qv_icmp_lt_f (nI_nlt (by omega) (by omega)) (nx := 2) rfl ?_
      refine qW.blk rfl ?_
      refine qv_aload rfl ?_
      refine qv_iload rfl ?_
      refine qv_ia hB (rfl) (by omega) (by decide) (h1 (a + c) (by omega)) ?_
      refine qv_aload rfl ?_
      refine qv_iload rfl ?_
      refine qv_iconst (v := 1) rfl ?_
      refine qv_iadd ?_
      refine qv_ia hB (nI_1 _) (by omega) (by decide) (h1 (a + c + 1) (by omega)) ?_
      refine qv_icmp_le_f (nI_ge h2 (by omega)) (nx := 3) rfl ?_
      refine qW.blk rfl ?_
      refine qv_iinc (L' := [_, _, _, _, _, _, _]) rfl (dec_eq _) rfl ?_
      refine qv_goto (tgt := 1) rfl ?_
      exact ih _ (by omega) rfl
  refine qW.blk rfl ?_
  refine qv_iload rfl ?_
  refine qv_iconst (v := 2) rfl ?_
  refine qv_isubN (q := 2) rfl rfl (by omega) ?_
  refine qv_istore (L' := [_, _, _, _, _, _, _]) rfl ?_
  refine qv_nil (nx := 1) rfl ?_
  exact loop (z - 1 - a) (nI (z - 2)) (by omega) (by rw [show a + (z - 1 - a) = z - 2 + 1 by omega, nI_dec])
end
