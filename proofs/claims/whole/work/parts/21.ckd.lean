/-! the checks, by the kernel -/
def pm_ckm (m : pm_M) (h : List Nat) : Bool := pm_wb (h.getD 0 0) (.code m.1.1 m.1.2.1 m.1.2.2.1 m.1.2.2.2) && (pm_wb (h.getD 1 0) (.initialized m.1.1.cls) && (plainName m.1.1.cls && (decide (m.1.1.cls ≠ "java/lang/invoke/MethodHandle" ∧ m.1.1.cls ≠ "java/lang/invoke/VarHandle") && (decide ((parseMethodDescriptor m.1.1.desc).map (fun d => d.parameters.length) = some m.2.1.1) && (decide (m.1.2.2.1 ≤ 40) &&
  ((decide (m.2.1.2 = 99) && pm_wb (h.getD 2 0) (.static m.1.1)) || (decide (m.2.1.2 ≠ 99) && (pm_wb (h.getD 2 0) (.instanceMethod m.1.1) && (decide (m.1.1.name = "<init>" ∧ m.1.2.2.2 = none) || (decide (m.1.1.name ≠ "<init>") && (pm_wb (h.getD 3 0) (.selects m.1.1.cls m.1.1 m.1.1) && (match pm_cl[m.2.1.2]? with | some r => decide (r.1 = m.1.1.cls) | none => false))))))))))))
def pm_ckr (cc : ByteArray) (own : String) (ini : Bool) (M : List pm_M) (code : List (Nat × List Instr)) : Nat → List (List Nat) → Bool
  | _, [] => true
  | b, hs :: r => (match code[b]? with | some q => pm_bk cc own ini M code b q.1 q.2 hs | none => false) && pm_ckr cc own ini M code (b + 1) r
theorem pm_ckr_at {cc : ByteArray} {own : String} {ini : Bool} {M : List pm_M} {code : List (Nat × List Instr)} {b : Nat} {q : Nat × List Instr} : ∀ {r : List (List Nat)} {b0 : Nat}, pm_ckr cc own ini M code b0 r = true → code[b]? = some q → b0 ≤ b → b < b0 + r.length → ∃ hs, pm_bk cc own ini M code b q.1 q.2 hs = true := by
  intro r
  induction r with
  | nil => intro b0 _ _ h1 h2; simp at h2; omega
  | cons hs r ih =>
    intro b0 h hq h1 h2
    unfold pm_ckr at h
    simp only [Bool.and_eq_true] at h
    by_cases e : b0 = b
    · subst e
      rw [hq] at h
      exact ⟨hs, h.1⟩
    · exact ih h.2 hq (by omega) (by rw [List.length_cons] at h2; omega)
def pm_ckc (M : List pm_M) (m : pm_M) (hs : List (List Nat)) : Bool := (match m.2.2[0]? with | some q => decide (q.1 = 0) | none => false) && (decide (hs.length = m.2.2.length) && pm_ckr m.1.2.1 m.1.1.cls (decide (m.1.1.name = "<init>")) M m.2.2 0 hs)
theorem pm_ck_ok {M : List pm_M} {m : pm_M} {h : List Nat} {hs : List (List Nat)} (h1 : pm_ckm m h = true) (h2 : pm_ckc M m hs = true) : pm_mOK m ∧ pm_code M m := by
  constructor
  · simp only [pm_ckm, Bool.and_eq_true, Bool.or_eq_true, decide_eq_true_eq] at h1
    obtain ⟨a1, a2, a3, a4, a5, a6, a7⟩ := h1
    refine ⟨pm_wb_in a1, pm_wb_in a2, a3, a4, a5, a6, ?_⟩
    rcases a7 with a7 | ⟨b1, b2, b3⟩
    · exact Or.inl ⟨a7.1, pm_wb_in a7.2⟩
    · refine Or.inr ⟨b1, pm_wb_in b2, ?_⟩
      rcases b3 with b3 | ⟨c1, c2, c3⟩
      · exact Or.inl b3
      · refine Or.inr ⟨c1, pm_wb_in c2, ?_⟩
        split at c3
        · rename_i r hr
          exact ⟨r, hr, by simpa using c3⟩
        · cases c3
  · simp only [pm_ckc, Bool.and_eq_true, decide_eq_true_eq] at h2
    obtain ⟨a1, a2, a3⟩ := h2
    refine ⟨?_, fun b q hq => pm_ckr_at a3 hq (Nat.zero_le _) (by rw [a2, Nat.zero_add]; exact (List.getElem?_eq_some_iff.mp hq).1)⟩
    split at a1
    · rename_i q hq
      exact ⟨q, hq, by simpa using a1⟩
    · cases a1
