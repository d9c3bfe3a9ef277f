/-! how the pure machine's frame and heap stand in the real ones -/
def pm_ad (sa : Nat → Nat) (base a : Nat) : Nat := if a < 8 then sa a else base + (a - 8)
def pm_cv (ad : Nat → Nat) (v : Value) : Value := match v with
  | .ref a => .ref (ad a)
  | v => v
def pm_ck (ad : Nat → Nat) (k : (Nat → Int32) ⊕ (Nat → Int64) ⊕ (Nat → UInt32) ⊕ (Nat → UInt64) ⊕ (Nat → Option Nat)) : (Nat → Int32) ⊕ (Nat → Int64) ⊕ (Nat → UInt32) ⊕ (Nat → UInt64) ⊕ (Nat → Option Nat) := match k with
  | .inr (.inr (.inr (.inr f))) => .inr (.inr (.inr (.inr (fun j => (f j).map ad))))
  | k => k
def pm_ce (ad : Nat → Nat) (dA : Nat → ClassId) (e : va_E) : va_E := match e with
  | .inl a => .inl (dA a.1, a.2.1, pm_ck ad a.2.2)
  | .inr o => .inr (o.1, o.2.map (pm_cv ad))
def pm_W (ad : Nat → Nat) (base : Nat) (dA : Nat → ClassId) (h : List va_E) : va_W := h.mapIdx (fun k e => (base + k, pm_ce ad dA e))
theorem pm_W_get {ad : Nat → Nat} {base : Nat} {dA : Nat → ClassId} {h : List va_E} (k : Nat) : (pm_W ad base dA h)[k]? = (h[k]?).map (fun e => (base + k, pm_ce ad dA e)) := by
  simp [pm_W]
theorem pm_W_at {ad : Nat → Nat} {base : Nat} {dA : Nat → ClassId} {h : List va_E} {k : Nat} {e : va_E} (hk : h[k]? = some e) : (pm_W ad base dA h)[k]? = some (base + k, pm_ce ad dA e) := by
  rw [pm_W_get, hk]; rfl
theorem pm_W_len {ad : Nat → Nat} {base : Nat} {dA : Nat → ClassId} {h : List va_E} : (pm_W ad base dA h).length = h.length := by
  simp [pm_W]
theorem pm_W_set {ad : Nat → Nat} {base : Nat} {dA : Nat → ClassId} {h : List va_E} {k : Nat} {e : va_E} : (pm_W ad base dA h).set k (base + k, pm_ce ad dA e) = pm_W ad base dA (h.set k e) := by
  apply List.ext_getElem?
  intro i
  rw [pm_W_get, List.getElem?_set, List.getElem?_set, pm_W_get, pm_W_len]
  by_cases hk : k = i
  · subst hk
    by_cases hl : k < h.length <;> simp [hl]
  · simp [hk]
theorem pm_W_push {ad : Nat → Nat} {base : Nat} {dA : Nat → ClassId} {h : List va_E} {e : va_E} : pm_W ad base dA h ++ [(base + h.length, pm_ce ad dA e)] = pm_W ad base dA (h ++ [e]) := by
  simp [pm_W, List.mapIdx_append]
theorem pm_W_D {ad : Nat → Nat} {base : Nat} {dA : Nat → ClassId} {h : List va_E} : va_D (fun q : Nat => base ≤ q) (pm_W ad base dA h) := by
  refine ⟨fun i j p q hi hj hpq => ?_, fun k q hk => ?_⟩
  · rw [pm_W_get] at hi hj
    cases hi1 : h[i]? with
    | none => rw [hi1] at hi; cases hi
    | some e1 =>
      cases hj1 : h[j]? with
      | none => rw [hj1] at hj; cases hj
      | some e2 =>
        rw [hi1] at hi
        rw [hj1] at hj
        cases hi
        cases hj
        exact Nat.add_left_cancel hpq
  · rw [pm_W_get] at hk
    cases hk1 : h[k]? with
    | none => rw [hk1] at hk; cases hk
    | some e1 =>
      rw [hk1] at hk
      cases hk
      exact Nat.le_add_right _ _
theorem pm_cv_cat (ad : Nat → Nat) (v : Value) : (pm_cv ad v).category = v.category := by
  cases v <;> rfl
theorem pm_cv_sum (ad : Nat → Nat) (st : List Value) : ((st.map (pm_cv ad)).map fun v => v.category).sum = (st.map fun v => v.category).sum := by
  rw [List.map_map]
  congr 1
  apply List.map_congr_left
  intro v _
  exact pm_cv_cat ad v
/-- locals -/
def pm_LR (ad : Nat → Nat) (nL : Nat) (L : List (Option Value)) (ls : Array Slot) : Prop := L.length = nL ∧ ls.size = nL ∧ lv_wf ls ∧ ∀ (i : Nat) (v : Value), L[i]? = some (some v) → ls[i]? = some (.val (pm_cv ad v))
def pm_pairs (ad : Nat → Nat) (L : List (Option Value)) : List (Nat × Value) := (List.range L.length).filterMap (fun i => (pm_ld L i).map (fun v => (i, pm_cv ad v)))
theorem pm_ld_some {L : List (Option Value)} {i : Nat} {v : Value} : pm_ld L i = some v ↔ L[i]? = some (some v) := by
  unfold pm_ld
  cases h : L[i]? with
  | none => simp
  | some o => simp
theorem pm_pairs_mem {ad : Nat → Nat} {L : List (Option Value)} {q : Nat × Value} : q ∈ pm_pairs ad L ↔ ∃ v, L[q.1]? = some (some v) ∧ q.2 = pm_cv ad v := by
  obtain ⟨i, w⟩ := q
  unfold pm_pairs
  rw [List.mem_filterMap]
  constructor
  · rintro ⟨j, -, hj⟩
    cases h : pm_ld L j with
    | none => rw [h] at hj; cases hj
    | some v =>
      rw [h] at hj
      cases hj
      exact ⟨v, pm_ld_some.mp h, rfl⟩
  · rintro ⟨v, h1, h2⟩
    have hl : i < L.length := (List.getElem?_eq_some_iff.mp h1).1
    refine ⟨i, List.mem_range.mpr hl, ?_⟩
    rw [pm_ld_some.mpr h1]
    simp only [Option.map_some]
    rw [← h2]
theorem pm_LR.has {ad : Nat → Nat} {nL : Nat} {L : List (Option Value)} {ls : Array Slot} (h : pm_LR ad nL L ls) : lv_has ls nL (pm_pairs ad L) := by
  refine ⟨h.2.1, h.2.2.1, fun q hq => ?_⟩
  obtain ⟨v, h1, h2⟩ := pm_pairs_mem.mp hq
  rw [h2]
  exact h.2.2.2 _ _ h1
theorem pm_clr_len (L : List (Option Value)) (i : Nat) : (pm_clr L i).length = L.length := by
  unfold pm_clr
  split
  · rfl
  · split
    · split
      · simp
      · rfl
    · rfl
theorem pm_clr_get {L : List (Option Value)} {i j : Nat} {v : Value} (h : (pm_clr L i)[j]? = some (some v)) : L[j]? = some (some v) ∧ ¬ (j + 1 = i ∧ v.category = 2) := by
  unfold pm_clr at h
  split at h
  · exact ⟨h, fun z => by omega⟩
  · rename_i k
    split at h
    · rename_i w hw
      split at h
      · rename_i hc
        rw [List.getElem?_set] at h
        split at h
        · split at h <;> cases h
        · rename_i hne
          exact ⟨h, fun z => hne (by omega)⟩
      · rename_i hc
        refine ⟨h, fun z => ?_⟩
        have e : j = k := by omega
        subst e
        rw [hw] at h
        cases h
        exact hc z.2
    · rename_i hw
      refine ⟨h, fun z => ?_⟩
      have e : j = k := by omega
      subst e
      exact hw _ h
theorem pm_LR.store1 {ad : Nat → Nat} {nL : Nat} {L L' : List (Option Value)} {ls' : Array Slot} {i : Nat} {v : Value} (hl : L.length = nL) (hc : v.category = 1) (hs : pm_st L i v = some L') (h' : lv_has ls' nL ((i, pm_cv ad v) :: (pm_pairs ad L).filter (fun q => !(q.1 == i) && !(q.1 + 1 == i && q.2.category == 2)))) : pm_LR ad nL L' ls' := by
  unfold pm_st at hs
  rw [if_neg (by omega)] at hs
  split at hs
  · rename_i hi
    cases hs
    refine ⟨by simp [pm_clr_len, hl], h'.1, h'.2.1, fun j w hj => ?_⟩
    rw [List.getElem?_set] at hj
    split at hj
    · rename_i e
      subst e
      split at hj
      · cases hj
        exact h'.2.2 (i, pm_cv ad v) (List.mem_cons_self)
      · cases hj
    · rename_i hne
      obtain ⟨h1, h2⟩ := pm_clr_get hj
      refine h'.2.2 (j, pm_cv ad w) (List.mem_cons_of_mem _ (List.mem_filter.mpr ⟨pm_pairs_mem.mpr ⟨w, h1, rfl⟩, ?_⟩))
      have e1 : (j == i) = false := by simp; exact fun z => hne z.symm
      simp only [pm_cv_cat, e1]
      simp only [Bool.not_false, Bool.true_and, Bool.not_eq_true', Bool.and_eq_false_iff, beq_eq_false_iff_ne]
      by_cases hz : j + 1 = i
      · exact Or.inr (fun z => h2 ⟨hz, z⟩)
      · exact Or.inl hz
  · cases hs
theorem pm_LR.store2 {ad : Nat → Nat} {nL : Nat} {L L' : List (Option Value)} {ls' : Array Slot} {i : Nat} {v : Value} (hl : L.length = nL) (hc : v.category = 2) (hs : pm_st L i v = some L') (h' : lv_has ls' nL ((i, pm_cv ad v) :: (pm_pairs ad L).filter (fun q => !(q.1 == i) && (!(q.1 == i + 1) && !(q.1 + 1 == i && q.2.category == 2))))) : pm_LR ad nL L' ls' := by
  unfold pm_st at hs
  rw [if_pos hc] at hs
  split at hs
  · rename_i hi
    cases hs
    refine ⟨by simp [pm_clr_len, hl], h'.1, h'.2.1, fun j w hj => ?_⟩
    rw [List.getElem?_set] at hj
    split at hj
    · rename_i e
      subst e
      split at hj
      · cases hj
        exact h'.2.2 (i, pm_cv ad v) (List.mem_cons_self)
      · cases hj
    · rename_i hne
      rw [List.getElem?_set] at hj
      split at hj
      · split at hj <;> cases hj
      · rename_i hne2
        obtain ⟨h1, h2⟩ := pm_clr_get hj
        refine h'.2.2 (j, pm_cv ad w) (List.mem_cons_of_mem _ (List.mem_filter.mpr ⟨pm_pairs_mem.mpr ⟨w, h1, rfl⟩, ?_⟩))
        have e1 : (j == i) = false := by simp; exact fun z => hne z.symm
        have e2 : (j == i + 1) = false := by simp; exact fun z => hne2 z.symm
        simp only [pm_cv_cat, e1, e2]
        simp only [Bool.not_false, Bool.true_and, Bool.not_eq_true', Bool.and_eq_false_iff, beq_eq_false_iff_ne]
        by_cases hz : j + 1 = i
        · exact Or.inr (fun z => h2 ⟨hz, z⟩)
        · exact Or.inl hz
  · cases hs
theorem pm_st_lt {L L' : List (Option Value)} {i : Nat} {v : Value} (hs : pm_st L i v = some L') : i < L.length ∧ (v.category = 2 → i + 1 < L.length) := by
  unfold pm_st at hs
  split at hs
  · split at hs
    · exact ⟨by omega, fun _ => by omega⟩
    · cases hs
  · rename_i hc
    split at hs
    · exact ⟨by omega, fun z => absurd z hc⟩
    · cases hs
theorem pm_ent_LR {ad : Nat → Nat} {n : Nat} {as : List Value} {L : List (Option Value)} (h : pm_ent n as = some L) : (lg_sl (as.map (pm_cv ad))).length ≤ n ∧ pm_LR ad n L ((lg_sl (as.map (pm_cv ad)) ++ List.replicate (n - (lg_sl (as.map (pm_cv ad))).length) Slot.unset).toArray) := by
  have key : ∀ (as : List Value), (lg_sl (as.map (pm_cv ad))).length = (as.flatMap (fun v => if v.category = 2 then [some v, none] else [some v])).length ∧ ∀ (i : Nat) (v : Value), (as.flatMap (fun v => if v.category = 2 then [some v, none] else [some v]))[i]? = some (some v) → (lg_sl (as.map (pm_cv ad)))[i]? = some (.val (pm_cv ad v)) := by
    intro as
    induction as with
    | nil => exact ⟨rfl, fun i v h => by simp at h⟩
    | cons a as ih =>
      obtain ⟨ih1, ih2⟩ := ih
      have e : lg_sl ((a :: as).map (pm_cv ad)) = (if a.category = 2 then [Slot.val (pm_cv ad a), .second] else [.val (pm_cv ad a)]) ++ lg_sl (as.map (pm_cv ad)) := by
        simp [lg_sl, pm_cv_cat]
      rw [e]
      by_cases hc : a.category = 2
      · simp only [List.flatMap_cons, hc, if_true]
        refine ⟨by simp [ih1], fun i v h => ?_⟩
        match i, h with
        | 0, h => simp at h; subst h; rfl
        | 1, h => simp at h
        | i + 2, h => simp at h ⊢; exact ih2 i v h
      · simp only [List.flatMap_cons, hc, if_false]
        refine ⟨by simp [ih1], fun i v h => ?_⟩
        match i, h with
        | 0, h => simp at h; subst h; rfl
        | i + 1, h => simp at h ⊢; exact ih2 i v h
  obtain ⟨k1, k2⟩ := key as
  unfold pm_ent at h
  simp only at h
  split at h
  · rename_i hl
    cases h
    have hle : (lg_sl (as.map (pm_cv ad))).length ≤ n := by rw [k1]; exact hl
    have hE := lv_entry (as.map (pm_cv ad)) (n := n) hle
    refine ⟨hle, ?_, hE.1, hE.2.1, fun i v hi => ?_⟩
    · rw [List.length_append, List.length_replicate]; omega
    · rw [List.getElem?_append] at hi
      split at hi
      · rename_i hlt
        have h3 := k2 i v hi
        rw [List.getElem?_toArray, List.getElem?_append_left (by rw [k1]; exact hlt)]
        exact h3
      · rw [List.getElem?_replicate] at hi
        split at hi <;> cases hi
  · cases h
