/-! RUNS: the pure machine with fuel enough; what is shown of it is the machine's -/
section
variable {X : pm_X} {M : List pm_M} {cf : Nat → List Value → pm_S → Option pm_T} {ret : Option FieldType} {code : List (Nat × List Instr)}
theorem pm_go_succ : ∀ (F b : Nat) (f : pm_F) (t : pm_T), pm_go X M cf ret code F b f = some t → pm_go X M cf ret code (F + 1) b f = some t := by
  intro F
  induction F with
  | zero => intro b f t h; unfold pm_go at h; cases h
  | succ F ih =>
    intro b f t h
    unfold pm_go at h
    unfold pm_go
    cases hc : code[b]? with
    | none => rw [hc] at h; cases h
    | some q =>
      rw [hc] at h
      simp only at h ⊢
      cases hx : pm_ex X M cf ret b q.2 f with
      | none => rw [hx] at h; cases h
      | some o =>
        rw [hx] at h
        cases o with
        | inl g => exact ih _ _ _ h
        | inr u => exact h
theorem pm_go_le {F F' b : Nat} {f : pm_F} {t : pm_T} (hF : F ≤ F') (h : pm_go X M cf ret code F b f = some t) : pm_go X M cf ret code F' b f = some t := by
  induction hF with
  | refl => exact h
  | step _ ih => exact pm_go_succ _ _ _ _ ih
theorem pm_go_det {F F' b : Nat} {f : pm_F} {t t' : pm_T} (h : pm_go X M cf ret code F b f = some t) (h' : pm_go X M cf ret code F' b f = some t') : t = t' := by
  rcases Nat.le_total F F' with hl | hl
  · exact Option.some.inj ((pm_go_le hl h).symm.trans h')
  · exact Option.some.inj (h.symm.trans (pm_go_le hl h'))
end
noncomputable def pm_any (g : Nat → Option pm_T) : Option pm_T := @dite _ (∃ (t : pm_T), ∃ F, g F = some t) (Classical.propDecidable _) (fun h => some (Classical.choose h)) (fun _ => none)
theorem pm_any_some {g : Nat → Option pm_T} {t : pm_T} (h : pm_any g = some t) : ∃ F, g F = some t := by
  unfold pm_any at h
  split at h
  · rename_i hex
    cases h
    exact Classical.choose_spec hex
  · cases h
theorem pm_any_of {g : Nat → Option pm_T} {t : pm_T} {F : Nat} (hd : ∀ F F' t t', g F = some t → g F' = some t' → t = t') (h : g F = some t) : pm_any g = some t := by
  have hex : ∃ (t : pm_T), ∃ F, g F = some t := ⟨t, F, h⟩
  unfold pm_any
  rw [dif_pos hex]
  obtain ⟨F', h'⟩ := Classical.choose_spec hex
  rw [hd _ _ _ _ h' h]
/-- method mid with these arguments, calls d deep at most -/
noncomputable def pm_run (X : pm_X) (M : List pm_M) (PR : pm_P) : Nat → Nat → List Value → pm_S → Option pm_T
  | 0, _, _, _ => none
  | d + 1, mid, as, S => match PR mid with
    | some g => if 16 ≤ d then g as S else none
    | none => match M[mid]? with
      | none => none
      | some m => match pm_ent m.1.2.2.1 as with
        | none => none
        | some L => pm_any (fun F => pm_go X M (pm_run X M PR d) m.1.2.2.2 m.2.2 F 0 (L, [], S))
theorem pm_m_run {X : pm_X} {M : List pm_M} {PR : pm_P} (hPR : ∀ (mid : Nat) (g : List Value → pm_S → Option pm_T), PR mid = some g → ∀ (as : List Value) (S : pm_S) (t : pm_T), g as S = some t → pm_le S t.2) : ∀ (d : Nat), pm_mf (pm_run X M PR d) := by
  intro d
  induction d with
  | zero => intro mid as S t h; unfold pm_run at h; cases h
  | succ d ih =>
    intro mid as S t h
    unfold pm_run at h
    split at h
    · rename_i g hg
      split at h
      · exact hPR mid g hg as S t h
      · cases h
    · split at h
      · cases h
      · split at h
        · cases h
        · obtain ⟨F, hF⟩ := pm_any_some h
          exact pm_m_go ih _ _ _ _ hF
theorem pm_run_CB {l : Launch} {sa : Nat → Nat} {base : Nat} {dC : Nat → ClassId} {dI : Nat → Nat → Nat} {dA : Nat → ClassId} {X : pm_X} {M : List pm_M} {PR : pm_P} (hM : ∀ (mid : Nat) (mm : pm_M), M[mid]? = some mm → PR mid = none → pm_mOK mm ∧ pm_code M mm) (hPR : ∀ (mid : Nat) (g : List Value → pm_S → Option pm_T), PR mid = some g → ∀ (as : List Value) (S : pm_S) (t : pm_T), g as S = some t → pm_le S t.2)
    (hPC : ∀ (mid : Nat) (mm : pm_M) (g : List Value → pm_S → Option pm_T), M[mid]? = some mm → PR mid = some g → ∀ (d : Nat), 16 ≤ d → ∀ (as : List Value) (S : pm_S) (t : pm_T), g as S = some t → pm_CB l sa base dC dI dA X (d + 1) mm as S t) :
    ∀ (d mid : Nat) (mm : pm_M) (as : List Value) (S : pm_S) (t : pm_T), M[mid]? = some mm → pm_run X M PR d mid as S = some t → pm_CB l sa base dC dI dA X d mm as S t := by
  intro d
  induction d with
  | zero => intro mid mm as S t _ h; unfold pm_run at h; cases h
  | succ d ih =>
    intro mid mm as S t hmm h
    unfold pm_run at h
    split at h
    · rename_i g hg
      split at h
      · rename_i hd
        exact hPC mid mm g hmm hg d hd as S t h
      · cases h
    · rename_i hg
      rw [hmm] at h
      simp only at h
      split at h
      · cases h
      · rename_i L hL
        obtain ⟨h1, h2⟩ := hM mid mm hmm hg
        obtain ⟨F, hF⟩ := pm_any_some h
        exact pm_CB_of h1 (pm_met h1 h2 (pm_m_run hPR d) ih hL hF)
/-- from block b with frame f the method comes to t -/
def pm_to (X : pm_X) (M : List pm_M) (cf : Nat → List Value → pm_S → Option pm_T) (ret : Option FieldType) (code : List (Nat × List Instr)) (b : Nat) (f : pm_F) (t : pm_T) : Prop := ∃ F, pm_go X M cf ret code F b f = some t
section
variable {X : pm_X} {M : List pm_M} {cf : Nat → List Value → pm_S → Option pm_T} {ret : Option FieldType} {code : List (Nat × List Instr)}
theorem pm_to_of {b : Nat} {f : pm_F} {t : pm_T} {ops : List Instr} {pc : Nat} {o : pm_O} (hb : code[b]? = some (pc, ops)) (hx : pm_ex X M cf ret b ops f = some o) (h : match o with | .inl g => pm_to X M cf ret code g.1 g.2 t | .inr u => u = t) : pm_to X M cf ret code b f t := by
  cases o with
  | inl g =>
    obtain ⟨F, hF⟩ := h
    refine ⟨F + 1, ?_⟩
    unfold pm_go
    rw [hb]
    simp only
    rw [hx]
    exact hF
  | inr u =>
    simp only at h
    subst h
    refine ⟨1, ?_⟩
    unfold pm_go
    rw [hb]
    simp only
    rw [hx]
end
theorem pm_run_of {X : pm_X} {M : List pm_M} {PR : pm_P} {d mid : Nat} {mm : pm_M} {as : List Value} {S : pm_S} {t : pm_T} {L : List (Option Value)} (hd : 1 ≤ d) (hP : PR mid = none) (hM : M[mid]? = some mm) (hL : pm_ent mm.1.2.2.1 as = some L) (h : pm_to X M (pm_run X M PR (d - 1)) mm.1.2.2.2 mm.2.2 0 (L, [], S) t) : pm_run X M PR d mid as S = some t := by
  obtain ⟨d, rfl⟩ : ∃ k, d = k + 1 := ⟨d - 1, by omega⟩
  obtain ⟨F, hF⟩ := h
  unfold pm_run
  rw [hP, hM]
  simp only
  rw [hL]
  exact pm_any_of (fun F F' t t' => pm_go_det) hF
