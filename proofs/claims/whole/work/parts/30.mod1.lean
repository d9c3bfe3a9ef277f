/-! the reference: its object, and its smallest methods -/
def bI (p : Prop) [Decidable p] : Int32 := if p then 1 else 0
theorem bI_t {p : Prop} [Decidable p] (h : p) : bI p = 1 := if_pos h
theorem bI_f {p : Prop} [Decidable p] (h : ¬ p) : bI p = 0 := if_neg h
theorem bI_ne {p : Prop} [Decidable p] : ¬ bI p = 0 ↔ p := by
  unfold bI
  split <;> rename_i h <;> simp [h]
theorem vi {i : Int32} {n : Nat} (h : decide (i < 0 ∨ n ≤ i.toNatClampNeg) = false) : vp_in i n := of_decide_eq_false h
/-- the reference's object (cell 163), by its numbers -/
def mo (i : Nat → Int32) : List Value := [.int (i 0), .ref 164, .ref 165, .int (i 3), .ref 166, .ref 167, .ref 168, .ref 169, .ref 170, .ref 171, .ref 172, .int (i 11), .int (i 12), .int (i 13), .int (i 14), .int (i 15), .int (i 16), .ref 173, .ref 174, .ref 175, .ref 176, .ref 177, .ref 178, .ref 179, .ref 180, .ref 181, .int (i 26), .int (i 27), .int (i 28), .int (i 29), .int (i 30), .int (i 31), .ref 182, .int (i 33), .int (i 34), .int (i 35), .ref 183, .ref 184, .ref 185, .ref 186, .ref 187, .ref 188, .ref 189, .ref 190, .ref 191, .int (i 45), .ref 192, .ref 193, .ref 194, .ref 195, .ref 196, .ref 197, .ref 198, .ref 199, .ref 200, .ref 201, .ref 202]
theorem mo_set0 (i : Nat → Int32) (v : Int32) : (mo i).set 0 (.int v) = mo (upd i 0 v) := rfl
theorem mo_set3 (i : Nat → Int32) (v : Int32) : (mo i).set 3 (.int v) = mo (upd i 3 v) := rfl
theorem mo_set11 (i : Nat → Int32) (v : Int32) : (mo i).set 11 (.int v) = mo (upd i 11 v) := rfl
theorem mo_set12 (i : Nat → Int32) (v : Int32) : (mo i).set 12 (.int v) = mo (upd i 12 v) := rfl
theorem mo_set13 (i : Nat → Int32) (v : Int32) : (mo i).set 13 (.int v) = mo (upd i 13 v) := rfl
theorem mo_set14 (i : Nat → Int32) (v : Int32) : (mo i).set 14 (.int v) = mo (upd i 14 v) := rfl
theorem mo_set15 (i : Nat → Int32) (v : Int32) : (mo i).set 15 (.int v) = mo (upd i 15 v) := rfl
theorem mo_set16 (i : Nat → Int32) (v : Int32) : (mo i).set 16 (.int v) = mo (upd i 16 v) := rfl
theorem mo_set26 (i : Nat → Int32) (v : Int32) : (mo i).set 26 (.int v) = mo (upd i 26 v) := rfl
theorem mo_set27 (i : Nat → Int32) (v : Int32) : (mo i).set 27 (.int v) = mo (upd i 27 v) := rfl
theorem mo_set28 (i : Nat → Int32) (v : Int32) : (mo i).set 28 (.int v) = mo (upd i 28 v) := rfl
theorem mo_set29 (i : Nat → Int32) (v : Int32) : (mo i).set 29 (.int v) = mo (upd i 29 v) := rfl
theorem mo_set30 (i : Nat → Int32) (v : Int32) : (mo i).set 30 (.int v) = mo (upd i 30 v) := rfl
theorem mo_set31 (i : Nat → Int32) (v : Int32) : (mo i).set 31 (.int v) = mo (upd i 31 v) := rfl
theorem mo_set33 (i : Nat → Int32) (v : Int32) : (mo i).set 33 (.int v) = mo (upd i 33 v) := rfl
theorem mo_set34 (i : Nat → Int32) (v : Int32) : (mo i).set 34 (.int v) = mo (upd i 34 v) := rfl
theorem mo_set35 (i : Nat → Int32) (v : Int32) : (mo i).set 35 (.int v) = mo (upd i 35 v) := rfl
theorem mo_set45 (i : Nat → Int32) (v : Int32) : (mo i).set 45 (.int v) = mo (upd i 45 v) := rfl
theorem ms_Model_in : pm_Ms[164]? = some md_Model_in := rfl
theorem ms_Model_isEnd : pm_Ms[169]? = some md_Model_isEnd := rfl
theorem ms_Model_isThere : pm_Ms[218]? = some md_Model_isThere := rfl
theorem ms_Model_isMember : pm_Ms[168]? = some md_Model_isMember := rfl
theorem ms_Model_isTree : pm_Ms[198]? = some md_Model_isTree := rfl
theorem ms_Model_isNumber : pm_Ms[166]? = some md_Model_isNumber := rfl
theorem ms_Model_change : pm_Ms[172]? = some md_Model_change := rfl
theorem ms_Model_set : pm_Ms[163]? = some md_Model_set := rfl
theorem ms_Desk_within : pm_Ms[108]? = some md_Desk_within := rfl
theorem ms_Desk_isEnd : pm_Ms[112]? = some md_Desk_isEnd := rfl
abbrev pm_np (PR : pm_P) : Prop := ∀ k, pm_skip k = false → PR k = none
section
variable {X : pm_X} {PR : pm_P}
theorem r_Model_in (hP : pm_np PR) {d : Nat} (hd : 1 ≤ d) (v lo hi : Int32) (S : pm_S) : pm_run X pm_Ms PR d 164 [.int v, .int lo, .int hi] S = some (some (.int (bI (lo ≤ v ∧ v ≤ hi))), S) := by
  refine pm_run_of (L := [_, _, _]) (by omega) (hP _ rfl) ms_Model_in rfl ?_
  show pm_to _ _ _ (some .boolean) cd_Model_in 0 _ _
  refine pm_to.blk rfl ?_
  refine pe_iload rfl ?_
  refine pe_iload rfl ?_
  refine pe_icmp_lt (tgt := 3) (nx := 1) rfl rfl (fun hc0 => ?_) (fun hc0 => ?_)
  · rw [bI_f (fun h => absurd h.1 (Int32.not_le.mpr hc0))]
    refine pm_to.blk rfl ?_
    refine pe_iconst (v := 0) rfl ?_
    refine pe_nil (nx := 4) rfl ?_
    refine pm_to.blk rfl ?_
    exact pe_iret rfl rfl
  · refine pm_to.blk rfl ?_
    refine pe_iload rfl ?_
    refine pe_iload rfl ?_
    refine pe_icmp_gt (tgt := 3) (nx := 2) rfl rfl (fun hc1 => ?_) (fun hc1 => ?_)
    · rw [bI_f (fun h => absurd h.2 (Int32.not_le.mpr hc1))]
      refine pm_to.blk rfl ?_
      refine pe_iconst (v := 0) rfl ?_
      refine pe_nil (nx := 4) rfl ?_
      refine pm_to.blk rfl ?_
      exact pe_iret rfl rfl
    · rw [bI_t ⟨Int32.not_lt.mp hc0, Int32.not_lt.mp hc1⟩]
      refine pm_to.blk rfl ?_
      refine pe_iconst (v := 1) rfl ?_
      refine pe_goto (tgt := 4) rfl ?_
      refine pm_to.blk rfl ?_
      exact pe_iret rfl rfl
theorem r_Desk_within (hP : pm_np PR) {d : Nat} (hd : 1 ≤ d) (v lo hi : Int32) (S : pm_S) : pm_run X pm_Ms PR d 108 [.int v, .int lo, .int hi] S = some (some (.int (bI (lo ≤ v ∧ v ≤ hi))), S) := by
  refine pm_run_of (L := [_, _, _]) (by omega) (hP _ rfl) ms_Desk_within rfl ?_
  show pm_to _ _ _ (some .boolean) cd_Desk_within 0 _ _
  refine pm_to.blk rfl ?_
  refine pe_iload rfl ?_
  refine pe_iload rfl ?_
  refine pe_icmp_lt (tgt := 3) (nx := 1) rfl rfl (fun hc0 => ?_) (fun hc0 => ?_)
  · rw [bI_f (fun h => absurd h.1 (Int32.not_le.mpr hc0))]
    refine pm_to.blk rfl ?_
    refine pe_iconst (v := 0) rfl ?_
    refine pe_nil (nx := 4) rfl ?_
    refine pm_to.blk rfl ?_
    exact pe_iret rfl rfl
  · refine pm_to.blk rfl ?_
    refine pe_iload rfl ?_
    refine pe_iload rfl ?_
    refine pe_icmp_gt (tgt := 3) (nx := 2) rfl rfl (fun hc1 => ?_) (fun hc1 => ?_)
    · rw [bI_f (fun h => absurd h.2 (Int32.not_le.mpr hc1))]
      refine pm_to.blk rfl ?_
      refine pe_iconst (v := 0) rfl ?_
      refine pe_nil (nx := 4) rfl ?_
      refine pm_to.blk rfl ?_
      exact pe_iret rfl rfl
    · rw [bI_t ⟨Int32.not_lt.mp hc0, Int32.not_lt.mp hc1⟩]
      refine pm_to.blk rfl ?_
      refine pe_iconst (v := 1) rfl ?_
      refine pe_goto (tgt := 4) rfl ?_
      refine pm_to.blk rfl ?_
      exact pe_iret rfl rfl
theorem bI_ret {p : Prop} [Decidable p] : pm_ret (some .boolean) (.int (bI p)) = true := by
  unfold bI
  split <;> rfl
theorem r_Model_isEnd (hP : pm_np PR) {d : Nat} (hd : 2 ≤ d) (v : Int32) (S : pm_S) : pm_run X pm_Ms PR d 169 [.int v] S = some (some (.int (bI (0 ≤ v ∧ v ≤ 6))), S) := by
  refine pm_run_of (L := [_]) (by omega) (hP _ rfl) ms_Model_isEnd rfl ?_
  show pm_to _ _ _ (some .boolean) cd_Model_isEnd 0 _ _
  refine pm_to.blk rfl ?_
  refine pe_iload rfl ?_
  refine pe_iconst (v := 0) rfl ?_
  refine pe_iconst (v := 6) rfl ?_
  refine pe_static rfl rfl (r_Model_in hP (by omega) v 0 6 S) ?_
  exact pe_iret bI_ret rfl
theorem r_Desk_isEnd (hP : pm_np PR) {d : Nat} (hd : 2 ≤ d) (v : Int32) (S : pm_S) : pm_run X pm_Ms PR d 112 [.int v] S = some (some (.int (bI (0 ≤ v ∧ v ≤ 6))), S) := by
  refine pm_run_of (L := [_]) (by omega) (hP _ rfl) ms_Desk_isEnd rfl ?_
  show pm_to _ _ _ (some .boolean) cd_Desk_isEnd 0 _ _
  refine pm_to.blk rfl ?_
  refine pe_iload rfl ?_
  refine pe_iconst (v := 0) rfl ?_
  refine pe_iconst (v := 6) rfl ?_
  refine pe_static rfl rfl (r_Desk_within hP (by omega) v 0 6 S) ?_
  exact pe_iret bI_ret rfl
theorem r_Model_isThere (hP : pm_np PR) {d : Nat} (hd : 2 ≤ d) (v : Int32) {S : pm_S} {i st : Nat → Int32} (hM : pm_h S 163 (.inr (10, mo i))) (hst : pm_h S 164 (.inl (0, 200, .inl st))) : pm_run X pm_Ms PR d 218 [.ref 163, .int v] S = some (some (.int (bI (0 ≤ v ∧ v ≤ st 0 - 1))), S) := by
  refine pm_run_of (L := [_, _]) (by omega) (hP _ rfl) ms_Model_isThere rfl ?_
  show pm_to _ _ _ (some .boolean) cd_Model_isThere 0 _ _
  refine pm_to.blk rfl ?_
  refine pe_iload rfl ?_
  refine pe_iconst (v := 0) rfl ?_
  refine pe_aload rfl ?_
  refine pe_getf hM rfl rfl ?_
  refine pe_iconst (v := 0) rfl ?_
  refine pe_iald hst (vi rfl) ?_
  refine pe_iconst (v := 1) rfl ?_
  refine pe_isub ?_
  refine pe_static rfl rfl (r_Model_in hP (by omega) v 0 (st 0 - 1) S) ?_
  exact pe_iret bI_ret rfl
theorem r_Model_isMember (hP : pm_np PR) {d : Nat} (hd : 2 ≤ d) (v : Int32) {S : pm_S} {i st : Nat → Int32} (hM : pm_h S 163 (.inr (10, mo i))) (hst : pm_h S 164 (.inl (0, 200, .inl st))) : pm_run X pm_Ms PR d 168 [.ref 163, .int v] S = some (some (.int (bI (0 ≤ v ∧ v ≤ st 2 - 1))), S) := by
  refine pm_run_of (L := [_, _]) (by omega) (hP _ rfl) ms_Model_isMember rfl ?_
  show pm_to _ _ _ (some .boolean) cd_Model_isMember 0 _ _
  refine pm_to.blk rfl ?_
  refine pe_iload rfl ?_
  refine pe_iconst (v := 0) rfl ?_
  refine pe_aload rfl ?_
  refine pe_getf hM rfl rfl ?_
  refine pe_iconst (v := 2) rfl ?_
  refine pe_iald hst (vi rfl) ?_
  refine pe_iconst (v := 1) rfl ?_
  refine pe_isub ?_
  refine pe_static rfl rfl (r_Model_in hP (by omega) v 0 (st 2 - 1) S) ?_
  exact pe_iret bI_ret rfl
theorem r_Model_isTree (hP : pm_np PR) {d : Nat} (hd : 2 ≤ d) (v : Int32) {S : pm_S} {i st : Nat → Int32} (hM : pm_h S 163 (.inr (10, mo i))) (hst : pm_h S 164 (.inl (0, 200, .inl st))) : pm_run X pm_Ms PR d 198 [.ref 163, .int v] S = some (some (.int (bI (0 ≤ v ∧ v ≤ st 3 - 1))), S) := by
  refine pm_run_of (L := [_, _]) (by omega) (hP _ rfl) ms_Model_isTree rfl ?_
  show pm_to _ _ _ (some .boolean) cd_Model_isTree 0 _ _
  refine pm_to.blk rfl ?_
  refine pe_iload rfl ?_
  refine pe_iconst (v := 0) rfl ?_
  refine pe_aload rfl ?_
  refine pe_getf hM rfl rfl ?_
  refine pe_iconst (v := 3) rfl ?_
  refine pe_iald hst (vi rfl) ?_
  refine pe_iconst (v := 1) rfl ?_
  refine pe_isub ?_
  refine pe_static rfl rfl (r_Model_in hP (by omega) v 0 (st 3 - 1) S) ?_
  exact pe_iret bI_ret rfl
theorem r_Model_change (hP : pm_np PR) {d : Nat} (hd : 1 ≤ d) (a v : Int32) (ha : vp_in a 200) {S : pm_S} {i st : Nat → Int32} (hM : pm_h S 163 (.inr (10, mo i))) (hst : pm_h S 164 (.inl (0, 200, .inl st))) : pm_run X pm_Ms PR d 172 [.ref 163, .int a, .int v] S = some (some (.int (st a.toNatClampNeg)), pm_put S 164 (.inl (0, 200, .inl (upd st a.toNatClampNeg v)))) := by
  refine pm_run_of (L := [_, _, _, _]) (by omega) (hP _ rfl) ms_Model_change rfl ?_
  show pm_to _ _ _ (some .int) cd_Model_change 0 _ _
  refine pm_to.blk rfl ?_
  refine pe_aload rfl ?_
  refine pe_getf hM rfl rfl ?_
  refine pe_iload rfl ?_
  refine pe_iald hst ha ?_
  refine pe_istore (L' := [_, _, _, _]) rfl ?_
  refine pe_aload rfl ?_
  refine pe_getf hM rfl rfl ?_
  refine pe_iload rfl ?_
  refine pe_iload rfl ?_
  refine pe_iast hst ha ?_
  refine pe_iload rfl ?_
  exact pe_iret rfl rfl
end
