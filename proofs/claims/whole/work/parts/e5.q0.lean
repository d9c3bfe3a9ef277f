/-! the state behind the two constructors -/
def rA (S : pm_S) (c : Nat) : Nat → Option Nat := match S.1[c - 8]? with
  | some (.inl (_, _, .inr (.inr (.inr (.inr g))))) => g
  | _ => fun _ => none
def qof (H : pm_S) : QST := (fun c j => fI H c j, fun c j => iA H c j, fun c => lA H c, fun c => rA H c, .null, [], H.2)
def chk : List Nat → List Value → Bool
  | [], [] => true
  | t :: ts, v :: vs => (match t with
    | 0 => (match v with | .int _ => true | _ => false)
    | 1 => (match v with | .null => true | _ => false)
    | t + 2 => (match v with | .ref a => a == t + 2 | _ => false)) && chk ts vs
  | _, _ => false
def okc (H : pm_S) (c : Nat) : Bool := match qLay c, H.1[c - 8]? with
  | (0, n, _), some (.inl (0, m, .inl _)) => n == m
  | (1, ci, ts), some (.inr (cj, fs)) => ci == cj && chk ts fs
  | (2, ty, ps), some (.inl (t, n, .inr (.inr (.inr (.inr g))))) => decide (2 ≤ ty ∧ ty < 5) && (ty == t && (n == ps.getD 0 0 && (List.range n).all (fun j => g j == some (ps.getD 1 0 + ps.getD 2 0 * j))))
  | (3, n, _), some (.inl (3, m, .inr (.inr (.inr (.inr _))))) => n == m
  | (4, n, _), some (.inl (1, m, .inr (.inl _))) => n == m
  | _, _ => false
theorem okc_all : (List.range 196).all (fun k => okc hp3 (k + 8)) = true := by decide +kernel
theorem hp3_len : hp3.1.length = 196 := by
  show (hp2.1 ++ [_]).length = 196
  rw [List.length_append, hp2_eq.2.1]; rfl
theorem chk_at {H : pm_S} {c : Nat} : ∀ {ts : List Nat} {fs all : List Value} {k : Nat}, chk ts fs = true → (∀ j v, fs[j]? = some v → all[k + j]? = some v) → (∃ ci, H.1[c - 8]? = some (.inr (ci, all))) → qfs (qof H) c k ts = fs := by
  intro ts
  induction ts with
  | nil => intro fs all k h _ _; cases fs with | nil => rfl | cons v vs => cases h
  | cons t ts ih =>
    intro fs all k h hall hc
    cases fs with
    | nil => cases h
    | cons v vs =>
      unfold chk at h
      rw [Bool.and_eq_true] at h
      have hv := hall 0 v rfl
      have htl := ih (fs := vs) (all := all) (k := k + 1) h.2 (fun j w hw => by
        have := hall (j + 1) w hw
        rw [show k + 1 + j = k + (j + 1) by omega]; exact this) hc
      show (if t = 0 then Value.int (qF (qof H) c k) else if t = 1 then qX (qof H) else .ref t) :: qfs (qof H) c (k + 1) ts = v :: vs
      rw [htl]
      refine congrArg (fun z => z :: vs) ?_
      have h1 := h.1
      match t, h1 with
      | 0, h1 =>
        cases v with
        | int x =>
          obtain ⟨ci, hc⟩ := hc
          have e9 : fI H c k = x := by
            unfold fI
            rw [hc]; simp only; rw [show all[k]? = some (.int x) from hv]
          show Value.int (fI H c k) = Value.int x
          rw [e9]
        | _ => cases h1
      | 1, h1 =>
        cases v with
        | null => rfl
        | _ => cases h1
      | t + 2, h1 =>
        cases v with
        | ref a =>
          have : a = t + 2 := by simpa using h1
          rw [this]
          show (if t + 2 = 0 then _ else if t + 2 = 1 then _ else Value.ref (t + 2)) = _
          rw [if_neg (by omega), if_neg (by omega)]
        | _ => cases h1
theorem cn_out {l : List va_E} {k t n : Nat} {g : Nat → Option Nat} (h : (l.map cn)[k]? = some (.inl (t, n, .inr (.inr (.inr (.inr g)))))) : ∀ j, n ≤ j → g j = none := by
  rw [List.getElem?_map] at h
  cases hk : l[k]? with
  | none => rw [hk] at h; cases h
  | some e =>
    rw [hk] at h
    have h' : cn e = .inl (t, n, .inr (.inr (.inr (.inr g)))) := Option.some.inj h
    unfold cn at h'
    split at h'
    · cases h'
      intro j hj
      exact if_neg (Nat.not_lt.mpr hj)
    · rename_i hne
      subst h'
      exact absurd rfl (hne t n g)
theorem hp2_map : ∃ l : List va_E, hp2.1 = l.map cn := by
  have h := hp2_eq.1
  unfold inip at h
  cases h0 : pm_call XN pm_Ms PR0 60 161 [.ref 163] (hp1.1 ++ [.inr (10, pm_blank 10)], hp1.2 + pm_N 10) with
  | none => rw [h0] at h; cases h
  | some u =>
    rw [h0] at h
    have : cnT u = (none, hp2) := Option.some.inj h
    exact ⟨u.2.1, by rw [← show (cnT u).2.1 = hp2.1 by rw [this]]; rfl⟩
theorem hp3_out {k t n : Nat} {g : Nat → Option Nat} (h : hp3.1[k]? = some (.inl (t, n, .inr (.inr (.inr (.inr g)))))) : ∀ j, n ≤ j → g j = none := by
  obtain ⟨l, hl⟩ := hp2_map
  have e3 : (hp2.1 ++ [(.inl (1, 1, .inr (.inl (fun _ => 0))) : va_E)])[k]? = some (.inl (t, n, .inr (.inr (.inr (.inr g))))) := h
  rw [List.getElem?_append] at e3
  split at e3
  · rw [hl] at e3
    exact cn_out e3
  · rw [List.getElem?_singleton] at e3
    split at e3 <;> cases e3
theorem cell_ok {H : pm_S} (hout : ∀ (k t n : Nat) (g : Nat → Option Nat), H.1[k]? = some (.inl (t, n, .inr (.inr (.inr (.inr g))))) → ∀ j, n ≤ j → g j = none) {c : Nat} (h : okc H c = true) : H.1[c - 8]? = some (qcel (qof H) c) := by
  unfold okc at h
  split at h
  · rename_i n x m g e1 e2
    have : n = m := by simpa using h
    subst this
    have e9 : qE (qof H) c = g := funext fun j => by
      show iA H c j = g j
      unfold iA; rw [e2]
    rw [e2]; unfold qcel; rw [e1]
    simp only
    rw [e9]
  · rename_i ci ts cj fs e1 e2
    simp only [Bool.and_eq_true, beq_iff_eq] at h
    obtain ⟨rfl, h⟩ := h
    rw [e2]; unfold qcel; rw [e1]
    simp only
    rw [chk_at (k := 0) (all := fs) h (fun j v hv => by rw [Nat.zero_add]; exact hv) ⟨_, e2⟩]
  · rename_i ty ps t n g e1 e2
    simp only [Bool.and_eq_true, beq_iff_eq, decide_eq_true_eq] at h
    obtain ⟨h5, rfl, rfl, h⟩ := h
    have e9 : g = (fun j => if j < ps.getD 0 0 then some (ps.getD 1 0 + ps.getD 2 0 * j) else none) := funext fun j => by
      by_cases hj : j < ps.getD 0 0
      · rw [if_pos hj]
        have := List.all_eq_true.mp h j (List.mem_range.mpr hj)
        simpa using this
      · rw [if_neg hj]
        exact hout _ _ _ _ e2 j (Nat.not_lt.mp hj)
    rw [e2, e9]; unfold qcel; rw [e1]; rfl
  · rename_i n x m g e1 e2
    have : n = m := by simpa using h
    subst this
    have e9 : qT (qof H) c = g := by
      show rA H c = g
      unfold rA; rw [e2]
    rw [e2]; unfold qcel; rw [e1]
    simp only
    rw [e9]
  · rename_i n x m g e1 e2
    have : n = m := by simpa using h
    subst this
    have e9 : qL (qof H) c = g := by
      show lA H c = g
      unfold lA; rw [e2]
    rw [e2]; unfold qcel; rw [e1]
    simp only
    rw [e9]
  · cases h
theorem qof_hp {H : pm_S} (hout : ∀ (k t n : Nat) (g : Nat → Option Nat), H.1[k]? = some (.inl (t, n, .inr (.inr (.inr (.inr g))))) → ∀ j, n ≤ j → g j = none) (hlen : H.1.length = 196) (hall : (List.range 196).all (fun k => okc H (k + 8)) = true) : qhp (qof H) = H := by
  have e1 : (qhp (qof H)).1 = H.1 := by
    rw [qhp_1]
    refine List.ext_getElem? fun k => ?_
    have hR : qR (qof H) = [] := rfl
    rw [hR, List.append_nil, List.getElem?_map]
    by_cases hk : k < 196
    · rw [List.getElem?_range hk]
      have := cell_ok hout (c := k + 8) (List.all_eq_true.mp hall k (List.mem_range.mpr hk))
      rw [show k + 8 - 8 = k by omega] at this
      rw [this]; rfl
    · rw [List.getElem?_eq_none (by rw [List.length_range]; omega), List.getElem?_eq_none (by rw [hlen]; omega)]; rfl
  have e2 : (qhp (qof H)).2 = H.2 := by rw [qhp_2]; rfl
  exact Prod.ext e1 e2
theorem q0_hp : qhp (qof hp3) = hp3 := qof_hp (fun _ _ _ _ h => hp3_out h) hp3_len okc_all
