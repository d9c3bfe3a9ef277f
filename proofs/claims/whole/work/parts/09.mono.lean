/-! the pure heap only grows -/
def pm_le (S T : pm_S) : Prop := S.1.length ≤ T.1.length ∧ S.2 ≤ T.2
theorem pm_le.rf (S : pm_S) : pm_le S S := ⟨Nat.le_refl _, Nat.le_refl _⟩
theorem pm_le.trans {S T U : pm_S} (h : pm_le S T) (g : pm_le T U) : pm_le S U := ⟨Nat.le_trans h.1 g.1, Nat.le_trans h.2 g.2⟩
theorem pm_le.of_eq {S T : pm_S} (h : T = S) : pm_le S T := by subst h; exact pm_le.rf _
theorem pm_le.set {S : pm_S} {k : Nat} {e : va_E} : pm_le S (S.1.set k e, S.2) := ⟨by rw [List.length_set]; exact Nat.le_refl _, Nat.le_refl _⟩
theorem pm_le.push {S : pm_S} {k : Nat} {e : va_E} : pm_le S (S.1 ++ [e], S.2 + k) := ⟨by rw [List.length_append]; exact Nat.le_add_right _ _, Nat.le_add_right _ _⟩
section
variable {X : pm_X} {f f' : pm_F}
theorem pm_m_push {v : Value} (h : pm_push v f = some f') : pm_le f.2.2 f'.2.2 := by
  unfold pm_push at h; cases h; exact pm_le.rf _
theorem pm_m_b2 {g : Int32 → Int32 → Option Value} (h : pm_b2 g f = some f') : pm_le f.2.2 f'.2.2 := by
  unfold pm_b2 at h
  repeat' split at h
  all_goals first | (cases h; exact pm_le.rf _) | cases h
theorem pm_m_b1 {g : Int32 → Value} (h : pm_b1 g f = some f') : pm_le f.2.2 f'.2.2 := by
  unfold pm_b1 at h
  repeat' split at h
  all_goals first | (cases h; exact pm_le.rf _) | cases h
theorem pm_m_l2 {g : Int64 → Int64 → Value} (h : pm_l2 g f = some f') : pm_le f.2.2 f'.2.2 := by
  unfold pm_l2 at h
  repeat' split at h
  all_goals first | (cases h; exact pm_le.rf _) | cases h
theorem pm_m_load {k : Value → Bool} {i : Nat} (h : pm_load k i f = some f') : pm_le f.2.2 f'.2.2 := by
  unfold pm_load at h
  repeat' split at h
  all_goals first | (cases h; exact pm_le.rf _) | cases h
theorem pm_m_store {k : Value → Bool} {i : Nat} (h : pm_store k i f = some f') : pm_le f.2.2 f'.2.2 := by
  unfold pm_store at h
  repeat' split at h
  all_goals first | (cases h; exact pm_le.rf _) | cases h
theorem pm_m_iinc {n : Int} {i : Nat} (h : pm_iinc i n f = some f') : pm_le f.2.2 f'.2.2 := by
  unfold pm_iinc at h
  repeat' split at h
  all_goals first | (cases h; exact pm_le.rf _) | cases h
theorem pm_m_iald (h : pm_iald X f = some f') : pm_le f.2.2 f'.2.2 := by
  unfold pm_iald at h
  repeat' split at h
  all_goals first | (cases h; exact pm_le.rf _) | cases h
theorem pm_m_lald (h : pm_lald X f = some f') : pm_le f.2.2 f'.2.2 := by
  unfold pm_lald at h
  repeat' split at h
  all_goals first | (cases h; exact pm_le.rf _) | cases h
theorem pm_m_aald (h : pm_aald X f = some f') : pm_le f.2.2 f'.2.2 := by
  unfold pm_aald at h
  repeat' split at h
  all_goals first | (cases h; exact pm_le.rf _) | cases h
theorem pm_m_iast (h : pm_iast X f = some f') : pm_le f.2.2 f'.2.2 := by
  unfold pm_iast at h
  repeat' split at h
  all_goals first | (cases h; exact pm_le.set) | cases h
theorem pm_m_last (h : pm_last X f = some f') : pm_le f.2.2 f'.2.2 := by
  unfold pm_last at h
  repeat' split at h
  all_goals first | (cases h; exact pm_le.set) | cases h
theorem pm_m_aast (h : pm_aast X f = some f') : pm_le f.2.2 f'.2.2 := by
  unfold pm_aast at h
  repeat' split at h
  all_goals first | (cases h; exact pm_le.set) | cases h
theorem pm_m_alen (h : pm_alen X f = some f') : pm_le f.2.2 f'.2.2 := by
  unfold pm_alen at h
  repeat' split at h
  all_goals first | (cases h; exact pm_le.rf _) | cases h
theorem pm_m_getf {n : Nat} (h : pm_getf X n f = some f') : pm_le f.2.2 f'.2.2 := by
  unfold pm_getf at h
  repeat' split at h
  all_goals first | (cases h; exact pm_le.rf _) | cases h
theorem pm_m_putf {n : Nat} (h : pm_putf X n f = some f') : pm_le f.2.2 f'.2.2 := by
  unfold pm_putf at h
  repeat' split at h
  all_goals first | (cases h; exact pm_le.set) | cases h
theorem pm_m_new {n : Nat} (h : pm_new n f = some f') : pm_le f.2.2 f'.2.2 := by
  unfold pm_new at h
  repeat' split at h
  all_goals first | (cases h; exact pm_le.push) | cases h
theorem pm_m_newa {t : Nat} {k : Nat → vp_A} (h : pm_newa t k f = some f') : pm_le f.2.2 f'.2.2 := by
  unfold pm_newa at h
  repeat' split at h
  all_goals first | (cases h; exact pm_le.push) | cases h
theorem pm_m_copy (h : pm_copy X f = some f') : pm_le f.2.2 f'.2.2 := by
  unfold pm_copy at h
  repeat' split at h
  all_goals first | (cases h; exact pm_le.set) | cases h
theorem pm_m_dup (h : pm_dup f = some f') : pm_le f.2.2 f'.2.2 := by
  unfold pm_dup at h
  repeat' split at h
  all_goals first | (cases h; exact pm_le.rf _) | cases h
theorem pm_m_dup2 (h : pm_dup2 f = some f') : pm_le f.2.2 f'.2.2 := by
  unfold pm_dup2 at h
  repeat' split at h
  all_goals first | (cases h; exact pm_le.rf _) | cases h
theorem pm_m_pop (h : pm_pop f = some f') : pm_le f.2.2 f'.2.2 := by
  unfold pm_pop at h
  repeat' split at h
  all_goals first | (cases h; exact pm_le.rf _) | cases h
theorem pm_m_pop2 (h : pm_pop2 f = some f') : pm_le f.2.2 f'.2.2 := by
  unfold pm_pop2 at h
  repeat' split at h
  all_goals first | (cases h; exact pm_le.rf _) | cases h
theorem pm_m_mm {g : Int32 → Int32 → Int32} (h : pm_mm g f = some f') : pm_le f.2.2 f'.2.2 := by
  unfold pm_mm at h
  repeat' split at h
  all_goals first | (cases h; exact pm_le.rf _) | cases h
theorem pm_m_oini (h : pm_oini f = some f') : pm_le f.2.2 f'.2.2 := by
  unfold pm_oini at h
  repeat' split at h
  all_goals first | (cases h; exact pm_le.rf _) | cases h
theorem pm_m_op {i : Instr} (h : pm_op X i f = some f') : pm_le f.2.2 f'.2.2 := by
  unfold pm_op at h
  split at h
  all_goals first
    | exact pm_m_push h | exact pm_m_load h | exact pm_m_store h | exact pm_m_iinc h | exact pm_m_b2 h | exact pm_m_b1 h | exact pm_m_l2 h | exact pm_m_iald h | exact pm_m_lald h | exact pm_m_aald h | exact pm_m_iast h | exact pm_m_last h | exact pm_m_aast h | exact pm_m_alen h | exact pm_m_getf h | exact pm_m_putf h | exact pm_m_new h | exact pm_m_newa h | exact pm_m_copy h | exact pm_m_dup h | exact pm_m_dup2 h | exact pm_m_mm h | exact pm_m_pop h | exact pm_m_pop2 h | exact pm_m_oini h | (cases h; done) | skip
  · split at h <;> first | (cases h; exact pm_le.rf _) | cases h
  · split at h
    · exact pm_m_newa h
    · cases h
end
def pm_oS (o : pm_O) : pm_S := match o with
  | .inl g => g.2.2.2
  | .inr t => t.2
def pm_mf (cf : Nat → List Value → pm_S → Option pm_T) : Prop := ∀ (mid : Nat) (as : List Value) (S : pm_S) (t : pm_T), cf mid as S = some t → pm_le S t.2
theorem pm_m_ex {X : pm_X} {M : List pm_M} {cf : Nat → List Value → pm_S → Option pm_T} {ret : Option FieldType} {b : Nat} (hcf : pm_mf cf) : ∀ (is : List Instr) (f : pm_F) (o : pm_O), pm_ex X M cf ret b is f = some o → pm_le f.2.2 (pm_oS o) := by
  intro is
  induction is with
  | nil => intro f o h; unfold pm_ex at h; cases h; exact pm_le.rf _
  | cons i is ih =>
    intro f o h
    unfold pm_ex at h
    split at h
    case h_12 mid => 
      repeat' split at h
      all_goals first | (cases h; done) | skip
      rename_i q _ r _ t ht
      exact (hcf _ _ _ _ ht).trans (ih _ _ h)
    case h_13 mid => 
      repeat' split at h
      all_goals first | (cases h; done) | skip
      rename_i q _ r _ _ t ht
      exact (hcf _ _ _ _ ht).trans (ih _ _ h)
    case h_14 mid => 
      repeat' split at h
      all_goals first | (cases h; done) | skip
      rename_i q _ r _ _ t ht
      exact (hcf _ _ _ _ ht).trans (ih _ _ h)
    case h_15 => 
      split at h
      · rename_i f' hf
        exact (pm_m_op hf).trans (ih _ _ h)
      · cases h
    all_goals
      repeat' split at h
      all_goals first | (cases h; exact pm_le.rf _) | cases h
theorem pm_m_go {X : pm_X} {M : List pm_M} {cf : Nat → List Value → pm_S → Option pm_T} {ret : Option FieldType} {code : List (Nat × List Instr)} (hcf : pm_mf cf) : ∀ (F b : Nat) (f : pm_F) (t : pm_T), pm_go X M cf ret code F b f = some t → pm_le f.2.2 t.2 := by
  intro F
  induction F with
  | zero => intro b f t h; unfold pm_go at h; cases h
  | succ F ih =>
    intro b f t h
    unfold pm_go at h
    split at h
    · cases h
    · split at h
      · cases h
      · rename_i g hg
        exact (pm_m_ex hcf _ _ _ hg).trans (ih _ _ _ h)
      · rename_i t' hg
        cases h
        exact pm_m_ex hcf _ _ _ hg
theorem pm_m_call {X : pm_X} {M : List pm_M} {PR : pm_P} (hPR : ∀ (mid : Nat) (g : List Value → pm_S → Option pm_T), PR mid = some g → ∀ (as : List Value) (S : pm_S) (t : pm_T), g as S = some t → pm_le S t.2) : ∀ (d : Nat), pm_mf (pm_call X M PR d) := by
  intro d
  induction d with
  | zero => intro mid as S t h; unfold pm_call at h; cases h
  | succ d ih =>
    intro mid as S t h
    unfold pm_call at h
    split at h
    · rename_i g hg
      split at h
      · exact hPR mid g hg as S t h
      · cases h
    · split at h
      · cases h
      · split at h
        · cases h
        · exact pm_m_go ih _ _ _ _ h
