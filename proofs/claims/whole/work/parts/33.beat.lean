/-! the reference: margins, who beats whom, signs -/
def mgn (w : Nat → Nat → Int32) (v : Nat → Int32) (x y : Nat) : Nat → Int32
  | 0 => 0
  | n + 1 => mgn w v x y n + (if w n x < w n y then v n else if w n y < w n x then -(v n) else 0)
abbrev sbt (mar ch : Int32) (x y : Nat) : Prop := ¬ x = y ∧ (0 < mar ∨ (mar = 0 ∧ ((ch = 0 ∧ x < y) ∨ (¬ ch = 0 ∧ y < x))))
def v_mar (i : Nat → Int32) (a : Nat → Nat → Int32) (N x y : Nat) : Int32 := mgn (v_wis i a) (v_voi i a) x y N
abbrev v_bts (i : Nat → Int32) (a : Nat → Nat → Int32) (N x y : Nat) : Prop := sbt (v_mar i a N x y) (a 0 1) x y
def v_std (i : Nat → Int32) (a : Nat → Nat → Int32) (N x y : Nat) : Nat := if v_bts i a N y x then y else x
def sgn (p q : Int32) : Int32 := if p < q then 1 else if q < p then -1 else 0
/-- how many vote -/
def v_ok (i : Nat → Int32) (a : Nat → Nat → Int32) (N : Nat) : Prop := v_mem i a = nI N ∧ N ≤ 9 ∧ (¬ i 35 ≤ 0 → N ≤ 3)
section
variable {X : pm_X} {PR : pm_P} {S : pm_S} {i : Nat → Int32} {a : Nat → Nat → Int32} {r bt : Nat → Int64} {N : Nat}
theorem r_Model_margin (hP : pm_np PR) {d : Nat} (hd : 4 ≤ d) (hM : MR S i a r bt) (hN : v_ok i a N) {x y : Nat} (hx : x < 7) (hy : y < 7) : pm_run X pm_Ms PR d 188 [.ref 163, .int (nI x), .int (nI y)] S = some (some (.int (v_mar i a N x y)), S) := by
  obtain ⟨hN1, hN2, hN3⟩ := hN
  refine pm_run_of (L := [_, _, _, _, _, _, _]) (by omega) (hP _ rfl) ms_Model_margin rfl ?_
  show pm_to _ _ _ (some .int) cd_Model_margin 0 _ _
  unfold v_mar
  have loop : ∀ (k m : Nat) (L5 L6 : Option Value), m + k = N → pm_to X pm_Ms (pm_run X pm_Ms PR (d - 1)) (some .int) cd_Model_margin 1 ([some (.ref 163), some (.int (nI x)), some (.int (nI y)), some (.int (mgn (v_wis i a) (v_voi i a) x y m)), some (.int (nI m)), L5, L6], [], S) (some (.int (mgn (v_wis i a) (v_voi i a) x y N)), S) := by
    intro k
    induction k with
    | zero =>
      intro m L5 L6 hm
      have e : m = N := by omega
      subst e
      refine pm_to.blk rfl ?_
      refine pe_iload rfl ?_
      refine pe_aload rfl ?_
      refine pe_virt rfl rfl (hM.o ) rfl ( r_Model_members hP (by omega) hM) ?_
      refine pe_icmp_ge (tgt := 8) (nx := 2) rfl rfl (fun hc1 => ?_) (fun hc1 => ?_)
      · refine pm_to.blk rfl ?_
        refine pe_iload rfl ?_
        exact pe_iret rfl rfl
      · exact absurd (by rw [hN1]; exact nI_le (Nat.le_refl _) (by omega)) hc1
    | succ k ih =>
      intro m L5 L6 hm
      refine pm_to.blk rfl ?_
      refine pe_iload rfl ?_
      refine pe_aload rfl ?_
      refine pe_virt rfl rfl (hM.o ) rfl ( r_Model_members hP (by omega) hM) ?_
      refine pe_icmp_ge (tgt := 8) (nx := 2) rfl rfl (fun hc1 => ?_) (fun hc1 => ?_)
      · rw [hN1] at hc1
        exact absurd hc1 (nI_ge (by omega) (by omega))
      · have tail : ∀ (u : Int32) (L5 L6 : Option Value), u = (if v_wis i a m x < v_wis i a m y then v_voi i a m else if v_wis i a m y < v_wis i a m x then -(v_voi i a m) else 0) → pm_to X pm_Ms (pm_run X pm_Ms PR (d - 1)) (some .int) cd_Model_margin 7 ([some (.ref 163), some (.int (nI x)), some (.int (nI y)), some (.int (mgn (v_wis i a) (v_voi i a) x y m)), some (.int (nI m)), L5, L6], [.int u, .int (mgn (v_wis i a) (v_voi i a) x y m)], S) (some (.int (mgn (v_wis i a) (v_voi i a) x y N)), S) := by
          intro u L5 L6 hu
          subst hu
          refine pm_to.blk rfl ?_
          refine pe_iadd ?_
          refine pe_istore (L' := [_, _, _, _, _, _, _]) rfl ?_
          refine pe_iinc (L' := [_, _, _, _, _, _, _]) rfl ((nI_succ m).symm) rfl ?_
          refine pe_goto (tgt := 1) rfl ?_
          exact ih (m + 1) _ _ (by omega)
        refine pm_to.blk rfl ?_
        refine pe_aload rfl ?_
        refine pe_iload rfl ?_
        refine pe_iload rfl ?_
        refine pe_virt rfl rfl (hM.o ) rfl ( r_Model_wishOf hP (by omega) hM (m := m) (e := x) (by omega) hx (fun z => by have := hN3 z; omega)) ?_
        refine pe_istore (L' := [_, _, _, _, _, _, _]) rfl ?_
        refine pe_aload rfl ?_
        refine pe_iload rfl ?_
        refine pe_iload rfl ?_
        refine pe_virt rfl rfl (hM.o ) rfl ( r_Model_wishOf hP (by omega) hM (m := m) (e := y) (by omega) hy (fun z => by have := hN3 z; omega)) ?_
        refine pe_istore (L' := [_, _, _, _, _, _, _]) rfl ?_
        refine pe_iload rfl ?_
        refine pe_iload rfl ?_
        refine pe_iload rfl ?_
        refine pe_icmp_ge (tgt := 4) (nx := 3) rfl rfl (fun hc2 => ?_) (fun hc2 => ?_)
        · refine pm_to.blk rfl ?_
          refine pe_iload rfl ?_
          refine pe_iload rfl ?_
          refine pe_icmp_le (tgt := 6) (nx := 5) rfl rfl (fun hc4 => ?_) (fun hc4 => ?_)
          · refine pm_to.blk rfl ?_
            refine pe_iconst (v := 0) rfl ?_
            refine pe_nil (nx := 7) rfl ?_
            refine tail 0 _ _ ?_
            rw [if_neg (Int32.not_lt.mpr hc2), if_neg (Int32.not_lt.mpr hc4)]
          · refine pm_to.blk rfl ?_
            refine pe_aload rfl ?_
            refine pe_iload rfl ?_
            refine pe_virt rfl rfl (hM.o ) rfl ( r_Model_voicesOf hP (by omega) hM (by omega)) ?_
            refine pe_ineg ?_
            refine pe_goto (tgt := 7) rfl ?_
            refine tail _ _ _ ?_
            rw [if_neg (Int32.not_lt.mpr hc2), if_pos (Int32.not_le.mp hc4)]
        · refine pm_to.blk rfl ?_
          refine pe_aload rfl ?_
          refine pe_iload rfl ?_
          refine pe_virt rfl rfl (hM.o ) rfl ( r_Model_voicesOf hP (by omega) hM (by omega)) ?_
          refine pe_goto (tgt := 7) rfl ?_
          refine tail _ _ _ ?_
          rw [if_pos (Int32.not_le.mp hc2)]
  refine pm_to.blk rfl ?_
  refine pe_iconst (v := 0) rfl ?_
  refine pe_istore (L' := [_, _, _, _, _, _, _]) rfl ?_
  refine pe_iconst (v := 0) rfl ?_
  refine pe_istore (L' := [_, _, _, _, _, _, _]) rfl ?_
  refine pe_nil (nx := 1) rfl ?_
  exact loop N 0 none none (by omega)
theorem r_Model_beats (hP : pm_np PR) {d : Nat} (hd : 5 ≤ d) (hM : MR S i a r bt) (hN : v_ok i a N) {x y : Nat} (hx : x < 7) (hy : y < 7) : pm_run X pm_Ms PR d 196 [.ref 163, .int (nI x), .int (nI y)] S = some (some (.int (bI (v_bts i a N x y))), S) := by
  refine pm_run_of (L := [_, _, _, _]) (by omega) (hP _ rfl) ms_Model_beats rfl ?_
  show pm_to _ _ _ (some .boolean) cd_Model_beats 0 _ _
  have exy : nI x = nI y ↔ x = y := nI_eq (by omega) (by omega)
  have t9 : ¬ v_bts i a N x y → ∀ L3, pm_to X pm_Ms (pm_run X pm_Ms PR (d - 1)) (some .boolean) cd_Model_beats 9 ([some (.ref 163), some (.int (nI x)), some (.int (nI y)), L3], [], S) (some (.int (bI (v_bts i a N x y))), S) := by
    intro h L3
    rw [bI_f h]
    refine pm_to.blk rfl ?_
    refine pe_iconst (v := 0) rfl ?_
    refine pe_nil (nx := 10) rfl ?_
    refine pm_to.blk rfl ?_
    exact pe_iret rfl rfl
  have t8 : v_bts i a N x y → ∀ L3, pm_to X pm_Ms (pm_run X pm_Ms PR (d - 1)) (some .boolean) cd_Model_beats 8 ([some (.ref 163), some (.int (nI x)), some (.int (nI y)), L3], [], S) (some (.int (bI (v_bts i a N x y))), S) := by
    intro h L3
    rw [bI_t h]
    refine pm_to.blk rfl ?_
    refine pe_iconst (v := 1) rfl ?_
    refine pe_goto (tgt := 10) rfl ?_
    refine pm_to.blk rfl ?_
    exact pe_iret rfl rfl
  refine pm_to.blk rfl ?_
  refine pe_iload rfl ?_
  refine pe_iload rfl ?_
  refine pe_icmp_ne (tgt := 2) (nx := 1) rfl rfl (fun hc0 => ?_) (fun hc0 => ?_)
  · have hne : ¬ x = y := fun z => hc0 (exy.mpr z)
    refine pm_to.blk rfl ?_
    refine pe_aload rfl ?_
    refine pe_iload rfl ?_
    refine pe_iload rfl ?_
    refine pe_virt rfl rfl (hM.o ) rfl ( r_Model_margin hP (by omega) hM hN hx hy) ?_
    refine pe_istore (L' := [_, _, _, _]) rfl ?_
    refine pe_iload rfl ?_
    refine pe_if_gt (tgt := 8) (nx := 3) rfl rfl (fun hc2 => ?_) (fun hc2 => ?_)
    · exact t8 ⟨hne, Or.inl hc2⟩ _
    · refine pm_to.blk rfl ?_
      refine pe_iload rfl ?_
      refine pe_if_ne (tgt := 9) (nx := 4) rfl rfl (fun hc3 => ?_) (fun hc3 => ?_)
      · exact t9 (fun h => h.2.elim hc2 (fun z => hc3 z.1)) _
      · have hz := Decidable.not_not.mp hc3
        refine pm_to.blk rfl ?_
        refine pe_aload rfl ?_
        refine pe_getf hM.o rfl rfl ?_
        refine pe_iconst (v := 1) rfl ?_
        refine pe_iald (hM.a 0 (by decide)) (vi rfl) ?_
        refine pe_if_ne (tgt := 7) (nx := 5) rfl rfl (fun hc4 => ?_) (fun hc4 => ?_)
        · have hch : ¬ a 0 1 = 0 := hc4
          refine pm_to.blk rfl ?_
          refine pe_iload rfl ?_
          refine pe_iload rfl ?_
          refine pe_icmp_le (tgt := 9) (nx := 8) rfl rfl (fun hc7 => ?_) (fun hc7 => ?_)
          · exact t9 (fun h => h.2.elim hc2 (fun z => z.2.elim (fun w => hch w.1) (fun w => absurd hc7 (nI_ge w.2 (by omega))))) _
          · exact t8 ⟨hne, Or.inr ⟨hz, Or.inr ⟨hch, (nI_ltI (by omega) (by omega)).mp (Int32.not_le.mp hc7)⟩⟩⟩ _
        · have hch : a 0 1 = 0 := Decidable.not_not.mp hc4
          refine pm_to.blk rfl ?_
          refine pe_iload rfl ?_
          refine pe_iload rfl ?_
          refine pe_icmp_ge (tgt := 9) (nx := 6) rfl rfl (fun hc5 => ?_) (fun hc5 => ?_)
          · exact t9 (fun h => h.2.elim hc2 (fun z => z.2.elim (fun w => absurd hc5 (nI_ge w.2 (by omega))) (fun w => w.1 hch))) _
          · refine pm_to.blk rfl ?_
            refine pe_goto (tgt := 8) rfl ?_
            exact t8 ⟨hne, Or.inr ⟨hz, Or.inl ⟨hch, (nI_ltI (by omega) (by omega)).mp (Int32.not_le.mp hc5)⟩⟩⟩ _
  · have he : x = y := exy.mp (Decidable.not_not.mp hc0)
    rw [bI_f (fun h => h.1 he)]
    refine pm_to.blk rfl ?_
    refine pe_iconst (v := 0) rfl ?_
    exact pe_iret rfl rfl
theorem v_std_lt {x y : Nat} (hx : x < 7) (hy : y < 7) : v_std i a N x y < 7 := by
  unfold v_std
  split <;> omega
theorem r_Model_standing (hP : pm_np PR) {d : Nat} (hd : 6 ≤ d) (hM : MR S i a r bt) (hN : v_ok i a N) {x y : Nat} (hx : x < 7) (hy : y < 7) : pm_run X pm_Ms PR d 195 [.ref 163, .int (nI x), .int (nI y)] S = some (some (.int (nI (v_std i a N x y))), S) := by
  refine pm_run_of (L := [_, _, _]) (by omega) (hP _ rfl) ms_Model_standing rfl ?_
  show pm_to _ _ _ (some .int) cd_Model_standing 0 _ _
  unfold v_std
  refine pm_to.blk rfl ?_
  refine pe_aload rfl ?_
  refine pe_iload rfl ?_
  refine pe_iload rfl ?_
  refine pe_virt rfl rfl (hM.o ) rfl ( r_Model_beats hP (by omega) hM hN hy hx) ?_
  refine pe_if_eq (tgt := 2) (nx := 1) rfl rfl (fun hc0 => ?_) (fun hc0 => ?_)
  · have h : ¬ v_bts i a N y x := fun z => by rw [bI_t z] at hc0; exact absurd hc0 (by decide)
    rw [if_neg h]
    refine pm_to.blk rfl ?_
    refine pe_iload rfl ?_
    refine pe_nil (nx := 3) rfl ?_
    refine pm_to.blk rfl ?_
    exact pe_iret rfl rfl
  · rw [if_pos (bI_ne.mp hc0)]
    refine pm_to.blk rfl ?_
    refine pe_iload rfl ?_
    refine pe_goto (tgt := 3) rfl ?_
    refine pm_to.blk rfl ?_
    exact pe_iret rfl rfl
theorem r_Model_sign (hP : pm_np PR) {d : Nat} (hd : 4 ≤ d) (hM : MR S i a r bt) {m x y : Nat} (hm : m < 9) (hc : ¬ i 35 ≤ 0 → m < 3) (hx : x < 7) (hy : y < 7) : pm_run X pm_Ms PR d 205 [.ref 163, .int (nI m), .int (nI x), .int (nI y)] S = some (some (.int (sgn (v_wis i a m x) (v_wis i a m y))), S) := by
  refine pm_run_of (L := [_, _, _, _, _, _]) (by omega) (hP _ rfl) ms_Model_sign rfl ?_
  show pm_to _ _ _ (some .int) cd_Model_sign 0 _ _
  unfold sgn
  refine pm_to.blk rfl ?_
  refine pe_aload rfl ?_
  refine pe_iload rfl ?_
  refine pe_iload rfl ?_
  refine pe_virt rfl rfl (hM.o ) rfl ( r_Model_wishOf hP (by omega) hM hm hx hc) ?_
  refine pe_istore (L' := [_, _, _, _, _, _]) rfl ?_
  refine pe_aload rfl ?_
  refine pe_iload rfl ?_
  refine pe_iload rfl ?_
  refine pe_virt rfl rfl (hM.o ) rfl ( r_Model_wishOf hP (by omega) hM hm hy hc) ?_
  refine pe_istore (L' := [_, _, _, _, _, _]) rfl ?_
  refine pe_iload rfl ?_
  refine pe_iload rfl ?_
  refine pe_icmp_ge (tgt := 2) (nx := 1) rfl rfl (fun hc0 => ?_) (fun hc0 => ?_)
  · rw [if_neg (Int32.not_lt.mpr hc0)]
    refine pm_to.blk rfl ?_
    refine pe_iload rfl ?_
    refine pe_iload rfl ?_
    refine pe_icmp_le (tgt := 4) (nx := 3) rfl rfl (fun hc2 => ?_) (fun hc2 => ?_)
    · rw [if_neg (Int32.not_lt.mpr hc2)]
      refine pm_to.blk rfl ?_
      refine pe_iconst (v := 0) rfl ?_
      refine pe_nil (nx := 5) rfl ?_
      refine pm_to.blk rfl ?_
      exact pe_iret rfl rfl
    · rw [if_pos (Int32.not_le.mp hc2)]
      refine pm_to.blk rfl ?_
      refine pe_iconst (v := (-1)) rfl ?_
      refine pe_goto (tgt := 5) rfl ?_
      refine pm_to.blk rfl ?_
      exact pe_iret rfl rfl
  · rw [if_pos (Int32.not_le.mp hc0)]
    refine pm_to.blk rfl ?_
    refine pe_iconst (v := 1) rfl ?_
    refine pe_goto (tgt := 5) rfl ?_
    refine pm_to.blk rfl ?_
    exact pe_iret rfl rfl
end
