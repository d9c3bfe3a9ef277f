/-! the reference: how a member votes -/
def psm (k p : Nat → Int32) (w : Nat → Nat → Int32) (v : Nat → Int32) (party : Int32) (x y : Nat) : Nat → Int32
  | 0 => 0
  | n + 1 => psm k p w v party x y n + (if (k n = 3 ∨ k n = 4) ∧ p n = party then sgn (w n x) (w n y) * v n else 0)
def sg0 (s : Int32) : Int32 := if 0 < s then 1 else if s < 0 then -1 else 0
def v_psg (i : Nat → Int32) (a : Nat → Nat → Int32) (N : Nat) (party : Int32) (x y : Nat) : Int32 := sg0 (psm (v_kin i a) (v_par i a) (v_wis i a) (v_voi i a) party x y N)
/-- what is known of a node: its name, what comes, what is seen, what stands in it -/
def nd_ok (a : Nat → Nat → Int32) (A n c : Nat) (s : Nat → Nat) (ins : Int32) : Prop := A < 110 ∧ a 20 A = nI n ∧ n < 7 ∧ a 22 A = nI c ∧ c < 7 ∧ (∀ q, q < 6 → a 23 (6 * A + q) = nI (s q) ∧ s q < 7) ∧ a 21 A = ins
def v_num (a : Nat → Nat → Int32) (m : Nat) : Nat := (a 0 (30 + m)).toNatClampNeg
def v_vot (i : Nat → Int32) (a : Nat → Nat → Int32) (N m n c : Nat) (s : Nat → Nat) (ins : Int32) (n' c' : Nat) (s' : Nat → Nat) (ins' : Int32) : Int32 :=
  if v_kin i a m = 0 then v_voi i a m * sgn (v_wis i a m n) (v_wis i a m n')
  else if v_kin i a m = 1 then v_voi i a m * sgn (v_wis i a m c) (v_wis i a m c')
  else if v_kin i a m = 2 then v_voi i a m * sgn (v_wis i a m (s (v_num a m))) (v_wis i a m (s' (v_num a m)))
  else if v_kin i a m = 3 then v_voi i a m * v_psg i a N (v_par i a m) n n'
  else if v_kin i a m = 4 then (if (ins >>> (v_end i a m &&& 31)) &&& 1 = (ins' >>> (v_end i a m &&& 31)) &&& 1 then v_voi i a m * v_psg i a N (v_par i a m) n n' else v_voi i a m * (((ins >>> (v_end i a m &&& 31)) &&& 1) - ((ins' >>> (v_end i a m &&& 31)) &&& 1)))
  else v_voi i a m / 2 * sgn (v_wis i a m n) (v_wis i a m n') + (v_voi i a m - v_voi i a m / 2) * sgn (v_wis i a m c) (v_wis i a m c')
section
variable {X : pm_X} {PR : pm_P} {S : pm_S} {i : Nat → Int32} {a : Nat → Nat → Int32} {r bt : Nat → Int64} {N : Nat}
theorem r_Model_partySign (hP : pm_np PR) {d : Nat} (hd : 5 ≤ d) (hM : MR S i a r bt) (hN : v_ok i a N) (p : Int32) {A B x y : Nat} (hA : A < 110) (hB : B < 110) (ea : a 20 A = nI x) (eb : a 20 B = nI y) (hx : x < 7) (hy : y < 7) : pm_run X pm_Ms PR d 207 [.ref 163, .int p, .int (nI A), .int (nI B)] S = some (some (.int (v_psg i a N p x y)), S) := by
  obtain ⟨hN1, hN2, hN3⟩ := hN
  refine pm_run_of (L := [_, _, _, _, _, _, _]) (by omega) (hP _ rfl) ms_Model_partySign rfl ?_
  show pm_to _ _ _ (some .int) cd_Model_partySign 0 _ _
  unfold v_psg
  generalize hf : psm (v_kin i a) (v_par i a) (v_wis i a) (v_voi i a) p x y = f
  have f0 : f 0 = 0 := by rw [← hf]; rfl
  have fs : ∀ n, f (n + 1) = f n + (if (v_kin i a n = 3 ∨ v_kin i a n = 4) ∧ v_par i a n = p then sgn (v_wis i a n x) (v_wis i a n y) * v_voi i a n else 0) := fun n => by rw [← hf]; rfl
  have loop : ∀ (k m : Nat) (L6 : Option Value), m + k = N → pm_to X pm_Ms (pm_run X pm_Ms PR (d - 1)) (some .int) cd_Model_partySign 1 ([some (.ref 163), some (.int p), some (.int (nI A)), some (.int (nI B)), some (.int (f m)), some (.int (nI m)), L6], [], S) (some (.int (sg0 (f N))), S) := by
    intro k
    induction k with
    | zero =>
      intro m L6 hm
      have e : m = N := by omega
      subst e
      refine pm_to.blk rfl ?_
      refine pe_iload rfl ?_
      refine pe_aload rfl ?_
      refine pe_virt rfl rfl (hM.o ) rfl ( r_Model_members hP (by omega) hM) ?_
      refine pe_icmp_ge (tgt := 11) (nx := 2) rfl rfl (fun hc1 => ?_) (fun hc1 => ?_)
      · unfold sg0
        refine pm_to.blk rfl ?_
        refine pe_iload rfl ?_
        refine pe_if_le (tgt := 13) (nx := 12) rfl rfl (fun hc11 => ?_) (fun hc11 => ?_)
        · rw [if_neg (Int32.not_lt.mpr hc11)]
          refine pm_to.blk rfl ?_
          refine pe_iload rfl ?_
          refine pe_if_ge (tgt := 15) (nx := 14) rfl rfl (fun hc13 => ?_) (fun hc13 => ?_)
          · rw [if_neg (Int32.not_lt.mpr hc13)]
            refine pm_to.blk rfl ?_
            refine pe_iconst (v := 0) rfl ?_
            refine pe_nil (nx := 16) rfl ?_
            refine pm_to.blk rfl ?_
            exact pe_iret rfl rfl
          · rw [if_pos (Int32.not_le.mp hc13)]
            refine pm_to.blk rfl ?_
            refine pe_iconst (v := (-1)) rfl ?_
            refine pe_goto (tgt := 16) rfl ?_
            refine pm_to.blk rfl ?_
            exact pe_iret rfl rfl
        · rw [if_pos (Int32.not_le.mp hc11)]
          refine pm_to.blk rfl ?_
          refine pe_iconst (v := 1) rfl ?_
          refine pe_goto (tgt := 16) rfl ?_
          refine pm_to.blk rfl ?_
          exact pe_iret rfl rfl
      · exact absurd (by rw [hN1]; exact nI_le (Nat.le_refl _) (by omega)) hc1
    | succ k ih =>
      intro m L6 hm
      refine pm_to.blk rfl ?_
      refine pe_iload rfl ?_
      refine pe_aload rfl ?_
      refine pe_virt rfl rfl (hM.o ) rfl ( r_Model_members hP (by omega) hM) ?_
      refine pe_icmp_ge (tgt := 11) (nx := 2) rfl rfl (fun hc1 => ?_) (fun hc1 => ?_)
      · rw [hN1] at hc1
        exact absurd hc1 (nI_ge (by omega) (by omega))
      · have h3 : ¬ i 35 ≤ 0 → m < 3 := fun z => by have := hN3 z; omega
        have t10 : ∀ (u : Int32) (L6 : Option Value), f (m + 1) = f m + u → pm_to X pm_Ms (pm_run X pm_Ms PR (d - 1)) (some .int) cd_Model_partySign 10 ([some (.ref 163), some (.int p), some (.int (nI A)), some (.int (nI B)), some (.int (f m)), some (.int (nI m)), L6], [.int u, .int (f m)], S) (some (.int (sg0 (f N))), S) := by
          intro u L6 hu
          refine pm_to.blk rfl ?_
          refine pe_iadd ?_
          refine pe_istore (L' := [_, _, _, _, _, _, _]) rfl ?_
          refine pe_iinc (L' := [_, _, _, _, _, _, _]) rfl ((nI_succ m).symm) rfl ?_
          refine pe_goto (tgt := 1) rfl ?_
          rw [← hu]
          exact ih (m + 1) _ (by omega)
        have t7 : ∀ (u : Int32) (L6 : Option Value), u = bI ((v_kin i a m = 3 ∨ v_kin i a m = 4) ∧ v_par i a m = p) → pm_to X pm_Ms (pm_run X pm_Ms PR (d - 1)) (some .int) cd_Model_partySign 7 ([some (.ref 163), some (.int p), some (.int (nI A)), some (.int (nI B)), some (.int (f m)), some (.int (nI m)), L6], [.int u], S) (some (.int (sg0 (f N))), S) := by
          intro u L6 hu
          subst hu
          refine pm_to.blk rfl ?_
          refine pe_istore (L' := [_, _, _, _, _, _, _]) rfl ?_
          refine pe_iload rfl ?_
          refine pe_iload rfl ?_
          refine pe_if_eq (tgt := 9) (nx := 8) rfl rfl (fun hc7 => ?_) (fun hc7 => ?_)
          · have hn : ¬ ((v_kin i a m = 3 ∨ v_kin i a m = 4) ∧ v_par i a m = p) := fun z => by rw [bI_t z] at hc7; exact absurd hc7 (by decide)
            refine pm_to.blk rfl ?_
            refine pe_iconst (v := 0) rfl ?_
            refine pe_nil (nx := 10) rfl ?_
            exact t10 0 _ (by rw [fs, if_neg hn])
          · have hy2 := bI_ne.mp hc7
            refine pm_to.blk rfl ?_
            refine pe_aload rfl ?_
            refine pe_iload rfl ?_
            refine pe_aload rfl ?_
            refine pe_getf hM.o rfl rfl ?_
            refine pe_iload rfl ?_
            refine pe_ialdN (hM.a 20 (by decide)) rfl hA (by decide) ?_
            refine pe_aload rfl ?_
            refine pe_getf hM.o rfl rfl ?_
            refine pe_iload rfl ?_
            refine pe_ialdN (hM.a 20 (by decide)) rfl hB (by decide) ?_
            refine pe_virt rfl rfl (hM.o ) rfl ( by rw [ea, eb]; exact r_Model_sign hP (by omega) hM (m := m) (by omega) h3 hx hy) ?_
            refine pe_aload rfl ?_
            refine pe_iload rfl ?_
            refine pe_virt rfl rfl (hM.o ) rfl ( r_Model_voicesOf hP (by omega) hM (by omega)) ?_
            refine pe_imul ?_
            refine pe_goto (tgt := 10) rfl ?_
            exact t10 _ _ (by rw [fs, if_pos hy2])
        have t6 : ¬ ((v_kin i a m = 3 ∨ v_kin i a m = 4) ∧ v_par i a m = p) → ∀ L6 : Option Value, pm_to X pm_Ms (pm_run X pm_Ms PR (d - 1)) (some .int) cd_Model_partySign 6 ([some (.ref 163), some (.int p), some (.int (nI A)), some (.int (nI B)), some (.int (f m)), some (.int (nI m)), L6], [], S) (some (.int (sg0 (f N))), S) := by
          intro hn L6
          refine pm_to.blk rfl ?_
          refine pe_iconst (v := 0) rfl ?_
          refine pe_nil (nx := 7) rfl ?_
          exact t7 0 _ (bI_f hn).symm
        have t4 : (v_kin i a m = 3 ∨ v_kin i a m = 4) → ∀ L6 : Option Value, pm_to X pm_Ms (pm_run X pm_Ms PR (d - 1)) (some .int) cd_Model_partySign 4 ([some (.ref 163), some (.int p), some (.int (nI A)), some (.int (nI B)), some (.int (f m)), some (.int (nI m)), L6], [], S) (some (.int (sg0 (f N))), S) := by
          intro hk L6
          refine pm_to.blk rfl ?_
          refine pe_aload rfl ?_
          refine pe_iload rfl ?_
          refine pe_virt rfl rfl (hM.o ) rfl ( r_Model_partyOf hP (by omega) hM (by omega)) ?_
          refine pe_iload rfl ?_
          refine pe_icmp_ne (tgt := 6) (nx := 5) rfl rfl (fun hc4 => ?_) (fun hc4 => ?_)
          · exact t6 (fun z => hc4 z.2) _
          · refine pm_to.blk rfl ?_
            refine pe_iconst (v := 1) rfl ?_
            refine pe_goto (tgt := 7) rfl ?_
            exact t7 1 _ (bI_t ⟨hk, Decidable.not_not.mp hc4⟩).symm
        refine pm_to.blk rfl ?_
        refine pe_aload rfl ?_
        refine pe_iload rfl ?_
        refine pe_virt rfl rfl (hM.o ) rfl ( r_Model_kindOf hP (by omega) hM (by omega)) ?_
        refine pe_iconst (v := 3) rfl ?_
        refine pe_icmp_eq (tgt := 4) (nx := 3) rfl rfl (fun hc2 => ?_) (fun hc2 => ?_)
        · exact t4 (Or.inl hc2) _
        · refine pm_to.blk rfl ?_
          refine pe_aload rfl ?_
          refine pe_iload rfl ?_
          refine pe_virt rfl rfl (hM.o ) rfl ( r_Model_kindOf hP (by omega) hM (by omega)) ?_
          refine pe_iconst (v := 4) rfl ?_
          refine pe_icmp_ne (tgt := 6) (nx := 4) rfl rfl (fun hc3 => ?_) (fun hc3 => ?_)
          · exact t6 (fun z => z.1.elim hc2 hc3) _
          · exact t4 (Or.inr (Decidable.not_not.mp hc3)) _
  refine pm_to.blk rfl ?_
  refine pe_iconst (v := 0) rfl ?_
  refine pe_istore (L' := [_, _, _, _, _, _, _]) rfl ?_
  refine pe_iconst (v := 0) rfl ?_
  refine pe_istore (L' := [_, _, _, _, _, _, _]) rfl ?_
  refine pe_nil (nx := 1) rfl ?_
  have := loop N 0 none (by omega)
  rw [f0] at this
  exact this
theorem r_Model_voteOf (hP : pm_np PR) {d : Nat} (hd : 6 ≤ d) (hM : MR S i a r bt) (hN : v_ok i a N) {m : Nat} (hm : m < N) (hq : v_kin i a m = 2 → ∃ q, q < 6 ∧ a 0 (30 + m) = nI q) {A B n c n' c' : Nat} {s s' : Nat → Nat} {ins ins' : Int32} (hA : nd_ok a A n c s ins) (hB : nd_ok a B n' c' s' ins') : pm_run X pm_Ms PR d 203 [.ref 163, .int (nI m), .int (nI A), .int (nI B)] S = some (some (.int (v_vot i a N m n c s ins n' c' s' ins')), S) := by
  obtain ⟨A1, A2, A3, A4, A5, A6, A7⟩ := hA
  obtain ⟨B1, B2, B3, B4, B5, B6, B7⟩ := hB
  have hN' := hN
  obtain ⟨hN1, hN2, hN3⟩ := hN'
  have hm9 : m < 9 := by omega
  have h3 : ¬ i 35 ≤ 0 → m < 3 := fun z => by have := hN3 z; omega
  refine pm_run_of (L := [_, _, _, _, _, _, _]) (by omega) (hP _ rfl) ms_Model_voteOf rfl ?_
  show pm_to _ _ _ (some .int) cd_Model_voteOf 0 _ _
  refine pm_to.blk rfl ?_
  refine pe_aload rfl ?_
  refine pe_iload rfl ?_
  refine pe_virt rfl rfl hM.o rfl (r_Model_voicesOf hP (by omega) hM hm9) ?_
  refine pe_istore (L' := [_, _, _, _, _, _, _]) rfl ?_
  refine pe_aload rfl ?_
  refine pe_iload rfl ?_
  refine pe_virt rfl rfl hM.o rfl (r_Model_kindOf hP (by omega) hM hm9) ?_
  refine pe_table tab5 rfl ?_
  unfold v_vot
  by_cases h0 : v_kin i a m = 0
  · simp only [h0, if_true]
    refine pm_to.blk rfl ?_
    refine pe_iload rfl ?_
    refine pe_aload rfl ?_
    refine pe_iload rfl ?_
    refine pe_aload rfl ?_
    refine pe_getf hM.o rfl rfl ?_
    refine pe_iload rfl ?_
    refine pe_ialdN (hM.a 20 (by decide)) rfl A1 (by decide) ?_
    refine pe_aload rfl ?_
    refine pe_getf hM.o rfl rfl ?_
    refine pe_iload rfl ?_
    refine pe_ialdN (hM.a 20 (by decide)) rfl B1 (by decide) ?_
    refine pe_virt rfl rfl (hM.o ) rfl ( by rw [A2, B2]; exact r_Model_sign hP (by omega) hM hm9 h3 A3 B3) ?_
    refine pe_imul ?_
    exact pe_iret rfl rfl
  by_cases h1 : v_kin i a m = 1
  · simp only [h0, h1, if_true, if_false]
    refine pm_to.blk rfl ?_
    refine pe_iload rfl ?_
    refine pe_aload rfl ?_
    refine pe_iload rfl ?_
    refine pe_aload rfl ?_
    refine pe_getf hM.o rfl rfl ?_
    refine pe_iload rfl ?_
    refine pe_ialdN (hM.a 22 (by decide)) rfl A1 (by decide) ?_
    refine pe_aload rfl ?_
    refine pe_getf hM.o rfl rfl ?_
    refine pe_iload rfl ?_
    refine pe_ialdN (hM.a 22 (by decide)) rfl B1 (by decide) ?_
    refine pe_virt rfl rfl (hM.o ) rfl ( by rw [A4, B4]; exact r_Model_sign hP (by omega) hM hm9 h3 A5 B5) ?_
    refine pe_imul ?_
    exact pe_iret rfl rfl
  by_cases h2 : v_kin i a m = 2
  · obtain ⟨q, hq1, hq2⟩ := hq h2
    have hnum : v_num a m = q := by unfold v_num; rw [hq2, nI_clamp (by omega)]
    have ix : ∀ k : Nat, nI 6 * nI k + a 0 (30 + m) = nI (6 * k + q) := fun k => by rw [hq2, pk_mul, nI_add]
    simp only [h0, h1, h2, if_true, if_false, hnum]
    refine pm_to.blk rfl ?_
    refine pe_iload rfl ?_
    refine pe_aload rfl ?_
    refine pe_iload rfl ?_
    refine pe_aload rfl ?_
    refine pe_getf hM.o rfl rfl ?_
    refine pe_iconst (v := 6) rfl ?_
    refine pe_iload rfl ?_
    refine pe_imul ?_
    refine pe_aload rfl ?_
    refine pe_getf hM.o rfl rfl ?_
    refine pe_iconst (v := 30) rfl ?_
    refine pe_iload rfl ?_
    refine pe_iadd ?_
    refine pe_ialdN (hM.a 0 (by decide)) (nI_add 30 m) (by show 30 + m < 200; omega) (by decide) ?_
    refine pe_iadd ?_
    refine pe_ialdN (hM.a 23 (by decide)) (ix A) (by show 6 * A + q < 660; omega) (by decide) ?_
    refine pe_aload rfl ?_
    refine pe_getf hM.o rfl rfl ?_
    refine pe_iconst (v := 6) rfl ?_
    refine pe_iload rfl ?_
    refine pe_imul ?_
    refine pe_aload rfl ?_
    refine pe_getf hM.o rfl rfl ?_
    refine pe_iconst (v := 30) rfl ?_
    refine pe_iload rfl ?_
    refine pe_iadd ?_
    refine pe_ialdN (hM.a 0 (by decide)) (nI_add 30 m) (by show 30 + m < 200; omega) (by decide) ?_
    refine pe_iadd ?_
    refine pe_ialdN (hM.a 23 (by decide)) (ix B) (by show 6 * B + q < 660; omega) (by decide) ?_
    refine pe_virt rfl rfl (hM.o ) rfl ( by rw [(A6 q hq1).1, (B6 q hq1).1]; exact r_Model_sign hP (by omega) hM hm9 h3 (A6 q hq1).2 (B6 q hq1).2) ?_
    refine pe_imul ?_
    exact pe_iret rfl rfl
  by_cases h4 : v_kin i a m = 3
  · simp only [h0, h1, h2, h4, if_true, if_false]
    refine pm_to.blk rfl ?_
    refine pe_iload rfl ?_
    refine pe_aload rfl ?_
    refine pe_aload rfl ?_
    refine pe_iload rfl ?_
    refine pe_virt rfl rfl (hM.o ) rfl ( r_Model_partyOf hP (by omega) hM hm9) ?_
    refine pe_iload rfl ?_
    refine pe_iload rfl ?_
    refine pe_virt rfl rfl (hM.o ) rfl ( r_Model_partySign hP (by omega) hM hN _ A1 B1 A2 B2 A3 B3) ?_
    refine pe_imul ?_
    exact pe_iret rfl rfl
  by_cases h5 : v_kin i a m = 4
  · simp only [h0, h1, h2, h4, h5, if_true, if_false]
    rw [← A7, ← B7]
    refine pm_to.blk rfl ?_
    refine pe_aload rfl ?_
    refine pe_getf hM.o rfl rfl ?_
    refine pe_iload rfl ?_
    refine pe_ialdN (hM.a 21 (by decide)) rfl A1 (by decide) ?_
    refine pe_aload rfl ?_
    refine pe_iload rfl ?_
    refine pe_virt rfl rfl (hM.o ) rfl ( r_Model_endFor hP (by omega) hM hm9) ?_
    refine pe_ishr ?_
    refine pe_iconst (v := 1) rfl ?_
    refine pe_iand ?_
    refine pe_istore (L' := [_, _, _, _, _, _, _]) rfl ?_
    refine pe_aload rfl ?_
    refine pe_getf hM.o rfl rfl ?_
    refine pe_iload rfl ?_
    refine pe_ialdN (hM.a 21 (by decide)) rfl B1 (by decide) ?_
    refine pe_aload rfl ?_
    refine pe_iload rfl ?_
    refine pe_virt rfl rfl (hM.o ) rfl ( r_Model_endFor hP (by omega) hM hm9) ?_
    refine pe_ishr ?_
    refine pe_iconst (v := 1) rfl ?_
    refine pe_iand ?_
    refine pe_istore (L' := [_, _, _, _, _, _, _]) rfl ?_
    refine pe_iload rfl ?_
    refine pe_iload rfl ?_
    refine pe_icmp_eq (tgt := 7) (nx := 6) rfl rfl (fun hc5 => ?_) (fun hc5 => ?_)
    · rw [if_pos hc5]
      refine pm_to.blk rfl ?_
      refine pe_iload rfl ?_
      refine pe_aload rfl ?_
      refine pe_aload rfl ?_
      refine pe_iload rfl ?_
      refine pe_virt rfl rfl (hM.o ) rfl ( r_Model_partyOf hP (by omega) hM hm9) ?_
      refine pe_iload rfl ?_
      refine pe_iload rfl ?_
      refine pe_virt rfl rfl (hM.o ) rfl ( r_Model_partySign hP (by omega) hM hN _ A1 B1 A2 B2 A3 B3) ?_
      refine pe_imul ?_
      refine pe_nil (nx := 8) rfl ?_
      refine pm_to.blk rfl ?_
      exact pe_iret rfl rfl
    · rw [if_neg hc5]
      refine pm_to.blk rfl ?_
      refine pe_iload rfl ?_
      refine pe_iload rfl ?_
      refine pe_iload rfl ?_
      refine pe_isub ?_
      refine pe_imul ?_
      refine pe_goto (tgt := 8) rfl ?_
      refine pm_to.blk rfl ?_
      exact pe_iret rfl rfl
  simp only [h0, h1, h2, h4, h5, if_false]
  refine pm_to.blk rfl ?_
  refine pe_iload rfl ?_
  refine pe_iconst (v := 2) rfl ?_
  refine pe_idiv (by decide) ?_
  refine pe_aload rfl ?_
  refine pe_iload rfl ?_
  refine pe_aload rfl ?_
  refine pe_getf hM.o rfl rfl ?_
  refine pe_iload rfl ?_
  refine pe_ialdN (hM.a 20 (by decide)) rfl A1 (by decide) ?_
  refine pe_aload rfl ?_
  refine pe_getf hM.o rfl rfl ?_
  refine pe_iload rfl ?_
  refine pe_ialdN (hM.a 20 (by decide)) rfl B1 (by decide) ?_
  refine pe_virt rfl rfl (hM.o ) rfl ( by rw [A2, B2]; exact r_Model_sign hP (by omega) hM hm9 h3 A3 B3) ?_
  refine pe_imul ?_
  refine pe_iload rfl ?_
  refine pe_iload rfl ?_
  refine pe_iconst (v := 2) rfl ?_
  refine pe_idiv (by decide) ?_
  refine pe_isub ?_
  refine pe_aload rfl ?_
  refine pe_iload rfl ?_
  refine pe_aload rfl ?_
  refine pe_getf hM.o rfl rfl ?_
  refine pe_iload rfl ?_
  refine pe_ialdN (hM.a 22 (by decide)) rfl A1 (by decide) ?_
  refine pe_aload rfl ?_
  refine pe_getf hM.o rfl rfl ?_
  refine pe_iload rfl ?_
  refine pe_ialdN (hM.a 22 (by decide)) rfl B1 (by decide) ?_
  refine pe_virt rfl rfl (hM.o ) rfl ( by rw [A4, B4]; exact r_Model_sign hP (by omega) hM hm9 h3 A5 B5) ?_
  refine pe_imul ?_
  refine pe_iadd ?_
  exact pe_iret rfl rfl
end
