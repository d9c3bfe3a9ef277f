/-! the reference: who votes, with what wishes; margins -/
def tb (x : Int32) (m : Nat) : Prop := (x >>> (nI m &&& 31)) &&& 1 = 1
def v_mem (i : Nat → Int32) (a : Nat → Nat → Int32) : Int32 := if i 35 ≤ 0 then a 0 2 else i 35
def v_voi (i : Nat → Int32) (a : Nat → Nat → Int32) (m : Nat) : Int32 := if i 35 ≤ 0 then a 0 (20 + m) else 1
def v_kin (i : Nat → Int32) (a : Nat → Nat → Int32) (m : Nat) : Int32 := if i 28 < 0 then (if (i 33 >>> (nI m &&& 31)) &&& 1 = 1 then 4 else if (i 29 >>> (nI m &&& 31)) &&& 1 = 1 then 1 else a 0 (10 + m)) else i 28
def v_par (i : Nat → Int32) (a : Nat → Nat → Int32) (m : Nat) : Int32 := if (i 33 >>> (nI m &&& 31)) &&& 1 = 1 then 0 else a 0 (30 + m)
def v_end (i : Nat → Int32) (a : Nat → Nat → Int32) (m : Nat) : Int32 := if (i 33 >>> (nI m &&& 31)) &&& 1 = 1 then i 34 else a 0 (40 + m)
def sp_liked (l p : Int32) : Int32 := if p = 0 then l / 2 else if bI (p = 1) = bI (l - l / 2 * 2 = 0) then bI (l / 2 = 0) else 3 - l / 2 - bI (l / 2 = 0)
def sp_place (l e : Int32) : Int32 := if sp_liked l 0 = e then 0 else if sp_liked l 1 = e then 1 else 2
def v_wis (i : Nat → Int32) (a : Nat → Nat → Int32) (m e : Nat) : Int32 := if i 35 ≤ 0 then (if nI m = i 31 then a 18 e else if (i 30 >>> (nI m &&& 31)) &&& 1 = 1 then a 0 (130 + 7 * m + e) else a 0 (60 + 7 * m + e)) else sp_place (a 19 m) (nI e)
section
variable {X : pm_X} {PR : pm_P} {S : pm_S} {i : Nat → Int32} {a : Nat → Nat → Int32} {r bt : Nat → Int64}
theorem r_Model_members (hP : pm_np PR) {d : Nat} (hd : 1 ≤ d) (hM : MR S i a r bt) : pm_run X pm_Ms PR d 189 [.ref 163] S = some (some (.int (v_mem i a)), S) := by
  refine pm_run_of (L := [_]) (by omega) (hP _ rfl) ms_Model_members rfl ?_
  show pm_to _ _ _ (some .int) cd_Model_members 0 _ _
  unfold v_mem
  refine pm_to.blk rfl ?_
  refine pe_aload rfl ?_
  refine pe_getf hM.o rfl rfl ?_
  refine pe_if_le (tgt := 2) (nx := 1) rfl rfl (fun hc0 => ?_) (fun hc0 => ?_)
  · rw [if_pos hc0]
    refine pm_to.blk rfl ?_
    refine pe_aload rfl ?_
    refine pe_getf hM.o rfl rfl ?_
    refine pe_iconst (v := 2) rfl ?_
    refine pe_iald (hM.a 0 (by decide)) (vi rfl) ?_
    refine pe_nil (nx := 3) rfl ?_
    refine pm_to.blk rfl ?_
    exact pe_iret rfl rfl
  · rw [if_neg hc0]
    refine pm_to.blk rfl ?_
    refine pe_aload rfl ?_
    refine pe_getf hM.o rfl rfl ?_
    refine pe_goto (tgt := 3) rfl ?_
    refine pm_to.blk rfl ?_
    exact pe_iret rfl rfl
theorem r_Model_voicesOf (hP : pm_np PR) {d : Nat} (hd : 1 ≤ d) (hM : MR S i a r bt) {m : Nat} (hm : m < 9) : pm_run X pm_Ms PR d 193 [.ref 163, .int (nI m)] S = some (some (.int (v_voi i a m)), S) := by
  refine pm_run_of (L := [_, _]) (by omega) (hP _ rfl) ms_Model_voicesOf rfl ?_
  show pm_to _ _ _ (some .int) cd_Model_voicesOf 0 _ _
  unfold v_voi
  refine pm_to.blk rfl ?_
  refine pe_aload rfl ?_
  refine pe_getf hM.o rfl rfl ?_
  refine pe_if_le (tgt := 2) (nx := 1) rfl rfl (fun hc0 => ?_) (fun hc0 => ?_)
  · rw [if_pos hc0]
    refine pm_to.blk rfl ?_
    refine pe_aload rfl ?_
    refine pe_getf hM.o rfl rfl ?_
    refine pe_iconst (v := 20) rfl ?_
    refine pe_iload rfl ?_
    refine pe_iadd ?_
    refine pe_ialdN (hM.a 0 (by decide)) (nI_add 20 m) (by show 20 + m < 200; omega) (by decide) ?_
    refine pe_nil (nx := 3) rfl ?_
    refine pm_to.blk rfl ?_
    exact pe_iret rfl rfl
  · rw [if_neg hc0]
    refine pm_to.blk rfl ?_
    refine pe_iconst (v := 1) rfl ?_
    refine pe_goto (tgt := 3) rfl ?_
    refine pm_to.blk rfl ?_
    exact pe_iret rfl rfl
theorem r_Model_kindOf (hP : pm_np PR) {d : Nat} (hd : 1 ≤ d) (hM : MR S i a r bt) {m : Nat} (hm : m < 9) : pm_run X pm_Ms PR d 204 [.ref 163, .int (nI m)] S = some (some (.int (v_kin i a m)), S) := by
  refine pm_run_of (L := [_, _]) (by omega) (hP _ rfl) ms_Model_kindOf rfl ?_
  show pm_to _ _ _ (some .int) cd_Model_kindOf 0 _ _
  unfold v_kin
  refine pm_to.blk rfl ?_
  refine pe_aload rfl ?_
  refine pe_getf hM.o rfl rfl ?_
  refine pe_if_lt (tgt := 2) (nx := 1) rfl rfl (fun hc0 => ?_) (fun hc0 => ?_)
  · rw [if_pos hc0]
    refine pm_to.blk rfl ?_
    refine pe_aload rfl ?_
    refine pe_getf hM.o rfl rfl ?_
    refine pe_iload rfl ?_
    refine pe_ishr ?_
    refine pe_iconst (v := 1) rfl ?_
    refine pe_iand ?_
    refine pe_iconst (v := 1) rfl ?_
    refine pe_icmp_ne (tgt := 4) (nx := 3) rfl rfl (fun hc2 => ?_) (fun hc2 => ?_)
    · rw [if_neg hc2]
      refine pm_to.blk rfl ?_
      refine pe_aload rfl ?_
      refine pe_getf hM.o rfl rfl ?_
      refine pe_iload rfl ?_
      refine pe_ishr ?_
      refine pe_iconst (v := 1) rfl ?_
      refine pe_iand ?_
      refine pe_iconst (v := 1) rfl ?_
      refine pe_icmp_ne (tgt := 6) (nx := 5) rfl rfl (fun hc4 => ?_) (fun hc4 => ?_)
      · rw [if_neg hc4]
        refine pm_to.blk rfl ?_
        refine pe_aload rfl ?_
        refine pe_getf hM.o rfl rfl ?_
        refine pe_iconst (v := 10) rfl ?_
        refine pe_iload rfl ?_
        refine pe_iadd ?_
        refine pe_ialdN (hM.a 0 (by decide)) (nI_add 10 m) (by show 10 + m < 200; omega) (by decide) ?_
        refine pe_nil (nx := 7) rfl ?_
        refine pm_to.blk rfl ?_
        exact pe_iret rfl rfl
      · rw [if_pos (Decidable.not_not.mp hc4)]
        refine pm_to.blk rfl ?_
        refine pe_iconst (v := 1) rfl ?_
        refine pe_goto (tgt := 7) rfl ?_
        refine pm_to.blk rfl ?_
        exact pe_iret rfl rfl
    · rw [if_pos (Decidable.not_not.mp hc2)]
      refine pm_to.blk rfl ?_
      refine pe_iconst (v := 4) rfl ?_
      refine pe_goto (tgt := 7) rfl ?_
      refine pm_to.blk rfl ?_
      exact pe_iret rfl rfl
  · rw [if_neg hc0]
    refine pm_to.blk rfl ?_
    refine pe_aload rfl ?_
    refine pe_getf hM.o rfl rfl ?_
    refine pe_goto (tgt := 7) rfl ?_
    refine pm_to.blk rfl ?_
    exact pe_iret rfl rfl
theorem r_Model_partyOf (hP : pm_np PR) {d : Nat} (hd : 1 ≤ d) (hM : MR S i a r bt) {m : Nat} (hm : m < 9) : pm_run X pm_Ms PR d 206 [.ref 163, .int (nI m)] S = some (some (.int (v_par i a m)), S) := by
  refine pm_run_of (L := [_, _]) (by omega) (hP _ rfl) ms_Model_partyOf rfl ?_
  show pm_to _ _ _ (some .int) cd_Model_partyOf 0 _ _
  unfold v_par
  refine pm_to.blk rfl ?_
  refine pe_aload rfl ?_
  refine pe_getf hM.o rfl rfl ?_
  refine pe_iload rfl ?_
  refine pe_ishr ?_
  refine pe_iconst (v := 1) rfl ?_
  refine pe_iand ?_
  refine pe_iconst (v := 1) rfl ?_
  refine pe_icmp_ne (tgt := 2) (nx := 1) rfl rfl (fun hc0 => ?_) (fun hc0 => ?_)
  · rw [if_neg hc0]
    refine pm_to.blk rfl ?_
    refine pe_aload rfl ?_
    refine pe_getf hM.o rfl rfl ?_
    refine pe_iconst (v := 30) rfl ?_
    refine pe_iload rfl ?_
    refine pe_iadd ?_
    refine pe_ialdN (hM.a 0 (by decide)) (nI_add 30 m) (by show 30 + m < 200; omega) (by decide) ?_
    refine pe_nil (nx := 3) rfl ?_
    refine pm_to.blk rfl ?_
    exact pe_iret rfl rfl
  · rw [if_pos (Decidable.not_not.mp hc0)]
    refine pm_to.blk rfl ?_
    refine pe_iconst (v := 0) rfl ?_
    refine pe_goto (tgt := 3) rfl ?_
    refine pm_to.blk rfl ?_
    exact pe_iret rfl rfl
theorem r_Model_endFor (hP : pm_np PR) {d : Nat} (hd : 1 ≤ d) (hM : MR S i a r bt) {m : Nat} (hm : m < 9) : pm_run X pm_Ms PR d 208 [.ref 163, .int (nI m)] S = some (some (.int (v_end i a m)), S) := by
  refine pm_run_of (L := [_, _]) (by omega) (hP _ rfl) ms_Model_endFor rfl ?_
  show pm_to _ _ _ (some .int) cd_Model_endFor 0 _ _
  unfold v_end
  refine pm_to.blk rfl ?_
  refine pe_aload rfl ?_
  refine pe_getf hM.o rfl rfl ?_
  refine pe_iload rfl ?_
  refine pe_ishr ?_
  refine pe_iconst (v := 1) rfl ?_
  refine pe_iand ?_
  refine pe_iconst (v := 1) rfl ?_
  refine pe_icmp_ne (tgt := 2) (nx := 1) rfl rfl (fun hc0 => ?_) (fun hc0 => ?_)
  · rw [if_neg hc0]
    refine pm_to.blk rfl ?_
    refine pe_aload rfl ?_
    refine pe_getf hM.o rfl rfl ?_
    refine pe_iconst (v := 40) rfl ?_
    refine pe_iload rfl ?_
    refine pe_iadd ?_
    refine pe_ialdN (hM.a 0 (by decide)) (nI_add 40 m) (by show 40 + m < 200; omega) (by decide) ?_
    refine pe_nil (nx := 3) rfl ?_
    refine pm_to.blk rfl ?_
    exact pe_iret rfl rfl
  · rw [if_pos (Decidable.not_not.mp hc0)]
    refine pm_to.blk rfl ?_
    refine pe_aload rfl ?_
    refine pe_getf hM.o rfl rfl ?_
    refine pe_goto (tgt := 3) rfl ?_
    refine pm_to.blk rfl ?_
    exact pe_iret rfl rfl
theorem r_Model_liked (hP : pm_np PR) {d : Nat} (hd : 1 ≤ d) (l p : Int32) : pm_run X pm_Ms PR d 192 [.int l, .int p] S = some (some (.int (sp_liked l p)), S) := by
  refine pm_run_of (L := [_, _, _, _, _]) (by omega) (hP _ rfl) ms_Model_liked rfl ?_
  show pm_to _ _ _ (some .int) cd_Model_liked 0 _ _
  have tail : ∀ (lo : Int32), lo = bI (l / 2 = 0) → pm_to X pm_Ms (pm_run X pm_Ms PR (d - 1)) (some .int) cd_Model_liked 3 ([some (.int l), some (.int p), some (.int (l / 2)), none, none], [.int lo], S) (some (.int (sp_liked l p)), S) := by
    intro lo hlo
    unfold sp_liked
    rw [← hlo]
    refine pm_to.blk rfl ?_
    refine pe_istore (L' := [_, _, _, _, _]) rfl ?_
    refine pe_iconst (v := 3) rfl ?_
    refine pe_iload rfl ?_
    refine pe_isub ?_
    refine pe_iload rfl ?_
    refine pe_isub ?_
    refine pe_istore (L' := [_, _, _, _, _]) rfl ?_
    refine pe_iload rfl ?_
    refine pe_if_ne (tgt := 5) (nx := 4) rfl rfl (fun hc3 => ?_) (fun hc3 => ?_)
    · rw [if_neg hc3]
      have t2 : ∀ (u w : Int32), u = bI (p = 1) → w = bI (l - l / 2 * 2 = 0) → pm_to X pm_Ms (pm_run X pm_Ms PR (d - 1)) (some .int) cd_Model_liked 11 ([some (.int l), some (.int p), some (.int (l / 2)), some (.int lo), some (.int (3 - l / 2 - lo))], [.int w, .int u], S) (some (.int (if bI (p = 1) = bI (l - l / 2 * 2 = 0) then lo else 3 - l / 2 - lo)), S) := by
        intro u w hu hw
        rw [← hu, ← hw]
        refine pm_to.blk rfl ?_
        refine pe_icmp_ne (tgt := 13) (nx := 12) rfl rfl (fun hc11 => ?_) (fun hc11 => ?_)
        · rw [if_neg hc11]
          refine pm_to.blk rfl ?_
          refine pe_iload rfl ?_
          refine pe_nil (nx := 14) rfl ?_
          refine pm_to.blk rfl ?_
          exact pe_iret rfl rfl
        · rw [if_pos (Decidable.not_not.mp hc11)]
          refine pm_to.blk rfl ?_
          refine pe_iload rfl ?_
          refine pe_goto (tgt := 14) rfl ?_
          refine pm_to.blk rfl ?_
          exact pe_iret rfl rfl
      have t1 : ∀ (u : Int32), u = bI (p = 1) → pm_to X pm_Ms (pm_run X pm_Ms PR (d - 1)) (some .int) cd_Model_liked 8 ([some (.int l), some (.int p), some (.int (l / 2)), some (.int lo), some (.int (3 - l / 2 - lo))], [.int u], S) (some (.int (if bI (p = 1) = bI (l - l / 2 * 2 = 0) then lo else 3 - l / 2 - lo)), S) := by
        intro u hu
        refine pm_to.blk rfl ?_
        refine pe_iload rfl ?_
        refine pe_iconst (v := 2) rfl ?_
        refine pe_irem (by decide) ?_
        refine pe_if_ne (tgt := 10) (nx := 9) rfl rfl (fun hc8 => ?_) (fun hc8 => ?_)
        · refine pm_to.blk rfl ?_
          refine pe_iconst (v := 0) rfl ?_
          refine pe_nil (nx := 11) rfl ?_
          exact t2 u 0 hu (bI_f hc8).symm
        · refine pm_to.blk rfl ?_
          refine pe_iconst (v := 1) rfl ?_
          refine pe_goto (tgt := 11) rfl ?_
          exact t2 u 1 hu (bI_t (Decidable.not_not.mp hc8)).symm
      refine pm_to.blk rfl ?_
      refine pe_iload rfl ?_
      refine pe_iconst (v := 1) rfl ?_
      refine pe_icmp_ne (tgt := 7) (nx := 6) rfl rfl (fun hc5 => ?_) (fun hc5 => ?_)
      · refine pm_to.blk rfl ?_
        refine pe_iconst (v := 0) rfl ?_
        refine pe_nil (nx := 8) rfl ?_
        exact t1 0 (bI_f hc5).symm
      · refine pm_to.blk rfl ?_
        refine pe_iconst (v := 1) rfl ?_
        refine pe_goto (tgt := 8) rfl ?_
        exact t1 1 (bI_t (Decidable.not_not.mp hc5)).symm
    · rw [if_pos (Decidable.not_not.mp hc3)]
      refine pm_to.blk rfl ?_
      refine pe_iload rfl ?_
      refine pe_goto (tgt := 14) rfl ?_
      refine pm_to.blk rfl ?_
      exact pe_iret rfl rfl
  refine pm_to.blk rfl ?_
  refine pe_iload rfl ?_
  refine pe_iconst (v := 2) rfl ?_
  refine pe_idiv (by decide) ?_
  refine pe_istore (L' := [_, _, _, _, _]) rfl ?_
  refine pe_iload rfl ?_
  refine pe_if_ne (tgt := 2) (nx := 1) rfl rfl (fun hc0 => ?_) (fun hc0 => ?_)
  · refine pm_to.blk rfl ?_
    refine pe_iconst (v := 0) rfl ?_
    refine pe_nil (nx := 3) rfl ?_
    exact tail 0 (bI_f hc0).symm
  · refine pm_to.blk rfl ?_
    refine pe_iconst (v := 1) rfl ?_
    refine pe_goto (tgt := 3) rfl ?_
    exact tail 1 (bI_t (Decidable.not_not.mp hc0)).symm
theorem r_Model_placeIn (hP : pm_np PR) {d : Nat} (hd : 2 ≤ d) (l e : Int32) : pm_run X pm_Ms PR d 191 [.int l, .int e] S = some (some (.int (sp_place l e)), S) := by
  refine pm_run_of (L := [_, _]) (by omega) (hP _ rfl) ms_Model_placeIn rfl ?_
  show pm_to _ _ _ (some .int) cd_Model_placeIn 0 _ _
  unfold sp_place
  refine pm_to.blk rfl ?_
  refine pe_iload rfl ?_
  refine pe_iconst (v := 0) rfl ?_
  refine pe_static rfl rfl (r_Model_liked hP (by omega) l 0) ?_
  refine pe_iload rfl ?_
  refine pe_icmp_ne (tgt := 2) (nx := 1) rfl rfl (fun hc0 => ?_) (fun hc0 => ?_)
  · rw [if_neg hc0]
    refine pm_to.blk rfl ?_
    refine pe_iload rfl ?_
    refine pe_iconst (v := 1) rfl ?_
    refine pe_static rfl rfl (r_Model_liked hP (by omega) l 1) ?_
    refine pe_iload rfl ?_
    refine pe_icmp_ne (tgt := 4) (nx := 3) rfl rfl (fun hc2 => ?_) (fun hc2 => ?_)
    · rw [if_neg hc2]
      refine pm_to.blk rfl ?_
      refine pe_iconst (v := 2) rfl ?_
      refine pe_nil (nx := 5) rfl ?_
      refine pm_to.blk rfl ?_
      exact pe_iret rfl rfl
    · rw [if_pos (Decidable.not_not.mp hc2)]
      refine pm_to.blk rfl ?_
      refine pe_iconst (v := 1) rfl ?_
      refine pe_goto (tgt := 5) rfl ?_
      refine pm_to.blk rfl ?_
      exact pe_iret rfl rfl
  · rw [if_pos (Decidable.not_not.mp hc0)]
    refine pm_to.blk rfl ?_
    refine pe_iconst (v := 0) rfl ?_
    refine pe_goto (tgt := 5) rfl ?_
    refine pm_to.blk rfl ?_
    exact pe_iret rfl rfl
theorem r_Model_wishOf (hP : pm_np PR) {d : Nat} (hd : 3 ≤ d) (hM : MR S i a r bt) {m e : Nat} (hm : m < 9) (he : e < 7) (hc : ¬ i 35 ≤ 0 → m < 3) : pm_run X pm_Ms PR d 190 [.ref 163, .int (nI m), .int (nI e)] S = some (some (.int (v_wis i a m e)), S) := by
  refine pm_run_of (L := [_, _, _]) (by omega) (hP _ rfl) ms_Model_wishOf rfl ?_
  show pm_to _ _ _ (some .int) cd_Model_wishOf 0 _ _
  unfold v_wis
  have ix : ∀ k : Nat, nI k + nI 7 * nI m + nI e = nI (k + 7 * m + e) := fun k => by rw [pk_mul, nI_add, nI_add]
  refine pm_to.blk rfl ?_
  refine pe_aload rfl ?_
  refine pe_getf hM.o rfl rfl ?_
  refine pe_if_le (tgt := 2) (nx := 1) rfl rfl (fun hc0 => ?_) (fun hc0 => ?_)
  · rw [if_pos hc0]
    refine pm_to.blk rfl ?_
    refine pe_iload rfl ?_
    refine pe_aload rfl ?_
    refine pe_getf hM.o rfl rfl ?_
    refine pe_icmp_ne (tgt := 4) (nx := 3) rfl rfl (fun hc2 => ?_) (fun hc2 => ?_)
    · rw [if_neg hc2]
      refine pm_to.blk rfl ?_
      refine pe_aload rfl ?_
      refine pe_getf hM.o rfl rfl ?_
      refine pe_iload rfl ?_
      refine pe_ishr ?_
      refine pe_iconst (v := 1) rfl ?_
      refine pe_iand ?_
      refine pe_iconst (v := 1) rfl ?_
      refine pe_icmp_ne (tgt := 6) (nx := 5) rfl rfl (fun hc4 => ?_) (fun hc4 => ?_)
      · rw [if_neg hc4]
        refine pm_to.blk rfl ?_
        refine pe_aload rfl ?_
        refine pe_getf hM.o rfl rfl ?_
        refine pe_iconst (v := 60) rfl ?_
        refine pe_iconst (v := 7) rfl ?_
        refine pe_iload rfl ?_
        refine pe_imul ?_
        refine pe_iadd ?_
        refine pe_iload rfl ?_
        refine pe_iadd ?_
        refine pe_ialdN (hM.a 0 (by decide)) (ix 60) (by show 60 + 7 * m + e < 200; omega) (by decide) ?_
        refine pe_nil (nx := 7) rfl ?_
        refine pm_to.blk rfl ?_
        exact pe_iret rfl rfl
      · rw [if_pos (Decidable.not_not.mp hc4)]
        refine pm_to.blk rfl ?_
        refine pe_aload rfl ?_
        refine pe_getf hM.o rfl rfl ?_
        refine pe_iconst (v := 130) rfl ?_
        refine pe_iconst (v := 7) rfl ?_
        refine pe_iload rfl ?_
        refine pe_imul ?_
        refine pe_iadd ?_
        refine pe_iload rfl ?_
        refine pe_iadd ?_
        refine pe_ialdN (hM.a 0 (by decide)) (ix 130) (by show 130 + 7 * m + e < 200; omega) (by decide) ?_
        refine pe_goto (tgt := 7) rfl ?_
        refine pm_to.blk rfl ?_
        exact pe_iret rfl rfl
    · rw [if_pos (Decidable.not_not.mp hc2)]
      refine pm_to.blk rfl ?_
      refine pe_aload rfl ?_
      refine pe_getf hM.o rfl rfl ?_
      refine pe_iload rfl ?_
      refine pe_ialdN (hM.a 18 (by decide)) rfl (by show e < 7; omega) (by decide) ?_
      refine pe_goto (tgt := 7) rfl ?_
      refine pm_to.blk rfl ?_
      exact pe_iret rfl rfl
  · rw [if_neg hc0]
    refine pm_to.blk rfl ?_
    refine pe_aload rfl ?_
    refine pe_getf hM.o rfl rfl ?_
    refine pe_iload rfl ?_
    refine pe_ialdN (hM.a 19 (by decide)) rfl (by show m < 3; exact hc hc0) (by decide) ?_
    refine pe_iload rfl ?_
    refine pe_static rfl rfl (r_Model_placeIn hP (by omega) (a 19 m) (nI e)) ?_
    exact pe_iret rfl rfl
end
