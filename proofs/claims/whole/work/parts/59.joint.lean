/-! what is told: the abstract state, its picture in the class and in the reference; how calls of both are alike -/
/-- a TREE: parts ahead (class), parts ahead of wholes (reference), where a part of the one stands in the other, how many parts, QUESTIONS, ENDS standing, ENDS asked -/
abbrev TD : Type := TR × TR × (Nat → Nat) × Nat × Nat × Nat × Nat
/-- a SHELF: what it holds, sort, size, cells, the member's numbers (which, kind, voices, number, end) -/
abbrev SD : Type := Nat × Nat × Nat × (Nat → Int32) × (Nat → Nat)
abbrev AS : Type := (Nat → Nat) × (Nat → Nat) × Nat × (Nat → TD) × (Nat → SD)
def aC (A : AS) : Nat → Nat := A.1
def aP (A : AS) : Nat → Nat := A.2.1
def aI (A : AS) : Nat := A.2.2.1
def aT (A : AS) : Nat → TD := A.2.2.2.1
def aS (A : AS) : Nat → SD := A.2.2.2.2
def updN {α : Type} (f : Nat → α) (k : Nat) (v : α) : Nat → α := fun j => if j = k then v else f j
theorem updN_s {α : Type} {f : Nat → α} {k : Nat} {v : α} : updN f k v k = v := if_pos rfl
theorem updN_n {α : Type} {f : Nat → α} {k j : Nat} {v : α} (h : j ≠ k) : updN f k v j = f j := if_neg h
/-- how many QUESTIONS stand ahead of part n -/
def qah (t : TR) : Nat → Nat
  | 0 => 0
  | n + 1 => qah t n + (if (t n).1 = 1 then 1 else 0)
/-- what bits the parts ahead of n set -/
def sdb (t : TR) (n : Nat) (e : Nat) : Prop := ∃ j, j < n ∧ (t j).1 = 0 ∧ (t j).2.2.2.1 = e
def akb (t : TR) (n : Nat) (e : Nat) : Prop := ∃ j, j < n ∧ (t j).1 = 2 ∧ ((t j).2.2.2.1 = e ∨ (t j).2.2.2.2 = e)
/-- the shape of parts ahead -/
def pre_ok (t : TR) (K : Nat) : Prop := ∀ n, n < K → (t n).1 ≤ 2 ∧ ((t n).1 = 0 → (t n).2.2.2.1 < 7) ∧ ((t n).1 = 2 → (t n).2.2.2.1 < 7 ∧ (t n).2.2.2.2 < 7) ∧ (¬ (t n).1 = 0 → n + 1 < K ∧ n < (t n).2.2.1 ∧ (t n).2.2.1 < K)
/-- both are pictures of one TREE -/
def iso (t u : TR) (w : Nat → Nat) (K : Nat) : Prop := w 0 = K - 1 ∧ (∀ n, n < K → w n < K) ∧ (∀ m, m < K → ∃ n, n < K ∧ w n = m) ∧ ∀ n, n < K → (u (w n)).1 = (t n).1 ∧ (¬ (t n).1 = 1 → (u (w n)).2.2.2.1 = (t n).2.2.2.1) ∧ ((t n).1 = 2 → (u (w n)).2.2.2.2 = (t n).2.2.2.2) ∧ (¬ (t n).1 = 0 → (u (w n)).2.1 = w (n + 1) ∧ (u (w n)).2.2.1 = w (t n).2.2.1) ∧ ((t n).1 = 1 → (u (w n)).2.2.2.1 = qah t n)
def tdOK (D : TD) : Prop := 0 < D.2.2.2.1 ∧ D.2.2.2.1 ≤ 60 ∧ pre_ok D.1 D.2.2.2.1 ∧ tr_ok D.2.1 D.2.2.2.1 ∧ iso D.1 D.2.1 D.2.2.1 D.2.2.2.1 ∧ D.2.2.2.2.1 = qah D.1 D.2.2.2.1 ∧ D.2.2.2.2.2.1 < 128 ∧ D.2.2.2.2.2.2 < 128 ∧ (∀ e, e < 7 → (btn D.2.2.2.2.2.1 e ↔ sdb D.1 D.2.2.2.1 e) ∧ (btn D.2.2.2.2.2.2 e ↔ akb D.1 D.2.2.2.1 e)) ∧ ∀ W : VW, (gval W D.2.1 (D.2.2.2.1 - 1)).2.2.2.1 = nI D.2.2.2.2.2.1
def cTD (R : List va_E) (T : Nat) (D : TD) : Prop := ∃ w sc pr, qTR R T D.2.2.2.1 w sc pr (nI D.2.2.2.2.1) (nI D.2.2.2.2.2.1) (nI D.2.2.2.2.2.2) ∧ ctr D.1 D.2.2.2.1 w sc pr
def rTD (s : QST) (t : Nat) (D : TD) : Prop := tr_in (fun k => qE s (164 + k)) t D.2.1 D.2.2.2.1 ∧ qE s 167 t = nI D.2.2.2.2.1
def failN (m : Nat → Nat) : Int32 := if m 1 = 3 then -15 else if m 1 = 4 then nI (100 + m 4 + m 0) else if m 1 = 5 then (if m 2 = 1 then -15 else nI (m 0)) else nI (m 0)
def cSH (s : QST) (d : Nat) (D : SD) : Prop := qF s (123 + 5 * d) 0 = nI D.1 ∧ (D.1 = 2 → qF s (123 + 5 * d) 1 = nI D.2.1 ∧ qF s (123 + 5 * d) 2 = nI D.2.2.1 ∧ ∀ j, j < 120 → qE s (123 + 5 * d + 4) j = D.2.2.2.1 j) ∧ (D.1 = 1 → ∀ k, k < 5 → qF s (123 + 5 * d + 1) k = nI (D.2.2.2.2 k))
def rSH (s : QST) (d : Nat) (D : SD) : Prop := qE s 196 d = nI D.1 ∧ (D.1 = 2 → qE s 199 d = nI D.2.1 ∧ qE s 200 d = nI D.2.2.1 ∧ ∀ j, j < 120 → qL s 201 (120 * d + j) = (D.2.2.2.1 j).toInt64) ∧ (D.1 = 1 → qE s 197 d = nI (heftN (D.2.2.2.2 1) (D.2.2.2.2 2) (D.2.2.2.2 3)) ∧ qE s 198 d = failN D.2.2.2.2)
def shOK (D : SD) : Prop := D.1 ≤ 2 ∧ D.2.1 ≤ 2 ∧ D.2.2.1 ≤ 120 ∧ (D.1 = 2 → D.2.1 = 0 → ∀ j, j < 120 → -128 ≤ (D.2.2.2.1 j).toInt ∧ (D.2.2.2.1 j).toInt ≤ 127) ∧ (D.1 = 1 → D.2.2.2.2 0 < 9 ∧ D.2.2.2.2 1 ≤ 5 ∧ 1 ≤ D.2.2.2.2 2 ∧ D.2.2.2.2 2 ≤ 9 ∧ D.2.2.2.2 3 < 10 ∧ D.2.2.2.2 4 ≤ 6)
/-- all of the class but the chamber's numbers -/
def JCo (s : QST) (A : AS) : Prop := qF s 8 2 = nI (aI A) ∧ (aI A = 1 → cC s 39 (aP A) ∧ ∀ t, t < aP A 3 → qT s 41 t = qT s 11 t) ∧ (∀ t, t < aC A 3 → ∃ T, qT s 11 t = some T ∧ cTD (qR s) T (aT A t)) ∧ ∀ d, d < 8 → cSH s d (aS A d)
def JC (s : QST) (A : AS) : Prop := cC s 9 (aC A) ∧ JCo s A
def JR (s : QST) (A : AS) : Prop := rC s 164 (aC A) ∧ (aI A = 1 → rC s 165 (aP A)) ∧ qF s 163 3 = nI (aI A) ∧ (∀ t, t < aC A 3 → rTD s t (aT A t)) ∧ (∀ d, d < 8 → rSH s d (aS A d)) ∧ rneu s
def AOK (A : AS) : Prop := CB (aC A) ∧ aI A ≤ 1 ∧ (aI A = 1 → CB (aP A) ∧ aP A 3 ≤ aC A 3) ∧ (∀ t, t < aC A 3 → tdOK (aT A t)) ∧ ∀ d, d < 8 → shOK (aS A d)
theorem cSH.cg {s s' : QST} {d : Nat} {D : SD} (h : cSH s d D) (h0 : qF s' (123 + 5 * d) = qF s (123 + 5 * d)) (h1 : qE s' (123 + 5 * d + 4) = qE s (123 + 5 * d + 4)) (h2 : qF s' (123 + 5 * d + 1) = qF s (123 + 5 * d + 1)) : cSH s' d D := by
  unfold cSH; rw [h0, h1, h2]; exact h
/-- calls of the class that leave all but the hall and what stands behind it -/
theorem JCo.fr {s s' : QST} {A : AS} {lo hi : Nat} (h : JCo s A) (hA : AOK A) (F : qfr lo hi s s') (hr : (9 ≤ lo ∧ hi ≤ 38 ∧ qT s' 11 = qT s 11) ∨ (70 ≤ lo ∧ hi ≤ 122) ∨ (163 ≤ lo ∧ hi ≤ 202)) {A' : AS} (e1 : aI A' = aI A) (e2 : aP A' = aP A) (e3 : aC A' 3 = aC A 3) (e4 : aT A' = aT A) (e5 : aS A' = aS A) : JCo s' A' := by
  obtain ⟨h1, h2, h3, h4⟩ := h
  have eT : qT s' 11 = qT s 11 := by
    rcases hr with hr | hr | hr
    · exact hr.2.2
    · exact F.T (by omega)
    · exact F.T (by omega)
  refine ⟨by rw [e1, F.f (by omega)]; exact h1, fun hi1 => ?_, fun t ht => ?_, fun d hd => ?_⟩
  · rw [e1] at hi1
    obtain ⟨g1, g2⟩ := h2 hi1
    rw [e2]
    refine ⟨g1.cg F (hA.2.2.1 hi1).1.2.2.2.1 (by omega), fun t ht => ?_⟩
    rw [eT, F.T (c := 41) (by omega)]
    exact g2 t ht
  · rw [e3] at ht
    rw [e4, eT, F.R]
    exact h3 t ht
  · rw [e5]
    exact (h4 d hd).cg (F.F (by omega)) (F.E (by omega)) (F.F (by omega))
theorem JC.fr {s s' : QST} {A : AS} {lo hi : Nat} (h : JC s A) (hA : AOK A) (F : qfr lo hi s s') (hr : (70 ≤ lo ∧ hi ≤ 122) ∨ (163 ≤ lo ∧ hi ≤ 202)) : JC s' A := ⟨h.1.cg F hA.1.2.2.2.1 (by omega), h.2.fr hA F (by omega) rfl rfl rfl rfl rfl⟩
/-- what the class may change in a call -/
def cfr (s s' : QST) : Prop := (∀ c, ¬ (8 ≤ c ∧ c ≤ 162) → qF s' c = qF s c ∧ qE s' c = qE s c ∧ qL s' c = qL s c ∧ qT s' c = qT s c) ∧ (∃ l, qR s' = qR s ++ l ∧ l.length ≤ 4) ∧ qN s' ≤ qN s + 400
theorem qfr.c {s s' : QST} {lo hi : Nat} (F : qfr lo hi s s') (h1 : 8 ≤ lo) (h2 : hi ≤ 162) : cfr s s' := ⟨fun c hc => F.1 c (by omega), ⟨[], by rw [List.append_nil]; exact F.R, by decide⟩, by rw [F.N]; omega⟩
theorem cfr.rf (s : QST) : cfr s s := (qfr.rf (lo := 8) (hi := 8) s).c (by decide) (by decide)
/-- the reference's calls that change no more than they need for an answer -/
def rfr (s s' : QST) : Prop := qfr 163 202 s s' ∧ (∀ c, (164 ≤ c ∧ c ≤ 172) ∨ (196 ≤ c ∧ c ≤ 200) → qE s' c = qE s c) ∧ qL s' 201 = qL s 201 ∧ ∀ k, k = 3 ∨ k = 28 ∨ k = 29 ∨ k = 30 ∨ k = 31 ∨ k = 33 ∨ k = 35 → qF s' 163 k = qF s 163 k
theorem rfr.rf (s : QST) : rfr s s := ⟨qfr.rf s, fun _ _ => rfl, rfl, fun _ _ => rfl⟩
theorem rfr.trans {s t u : QST} (h : rfr s t) (g : rfr t u) : rfr s u := ⟨h.1.trans g.1, fun c hc => (g.2.1 c hc).trans (h.2.1 c hc), g.2.2.1.trans h.2.2.1, fun k hk => (g.2.2.2 k hk).trans (h.2.2.2 k hk)⟩
theorem rneu.fr {s s' : QST} (h : rneu s) (F : rfr s s') : rneu s' := by
  obtain ⟨n1, n2, n3, n4, n5, n6⟩ := h
  exact ⟨by rw [F.2.2.2 28 (by omega)]; exact n1, by rw [F.2.2.2 29 (by omega)]; exact n2, by rw [F.2.2.2 30 (by omega)]; exact n3, by rw [F.2.2.2 31 (by omega)]; exact n4, by rw [F.2.2.2 33 (by omega)]; exact n5, by rw [F.2.2.2 35 (by omega)]; exact n6⟩
theorem tr_in.cg {a a' : Nat → Nat → Int32} {tt K : Nat} {t : TR} (h : tr_in a tt t K) (e : ∀ k, k = 2 ∨ (4 ≤ k ∧ k ≤ 8) → a' k = a k) : tr_in a' tt t K := by
  unfold tr_in; rw [e 2 (by omega), e 4 (by omega), e 5 (by omega), e 6 (by omega), e 7 (by omega), e 8 (by omega)]; exact h
theorem rTD.cg {s s' : QST} {t : Nat} {D : TD} (h : rTD s t D) (e : ∀ c, 166 ≤ c ∧ c ≤ 172 → qE s' c = qE s c) : rTD s' t D := by
  refine ⟨h.1.cg (fun k hk => ?_), ?_⟩
  · show qE s' (164 + k) = qE s (164 + k)
    exact e _ (by omega)
  · rw [e 167 (by omega)]; exact h.2
theorem rSH.cg {s s' : QST} {d : Nat} {D : SD} (h : rSH s d D) (e : ∀ c, 196 ≤ c ∧ c ≤ 200 → qE s' c = qE s c) (l : qL s' 201 = qL s 201) : rSH s' d D := by
  unfold rSH; rw [e 196 (by omega), e 197 (by omega), e 198 (by omega), e 199 (by omega), e 200 (by omega), l]; exact h
theorem JR.fr {s s' : QST} {A : AS} (h : JR s A) (F : rfr s s') : JR s' A := by
  obtain ⟨h1, h2, h3, h4, h5, h6⟩ := h
  exact ⟨h1.cg (F.2.1 _ (by omega)), fun z => (h2 z).cg (F.2.1 _ (by omega)), by rw [F.2.2.2 3 (by omega)]; exact h3, fun t ht => (h4 t ht).cg (fun c hc => F.2.1 c (by omega)), fun d hd => (h5 d hd).cg (fun c hc => F.2.1 c (by omega)) F.2.2.1, h6.fr F⟩
theorem rfr.thr {s t : QST} {v : Int32} (h : rfr s t) : rfr s (uF t 163 0 v) := h.trans ⟨(qfr.rf t).uF (by omega), fun _ _ => rfl, rfl, fun k hk => qF_uFk (by omega)⟩
theorem JR.thr {s : QST} {A : AS} {v : Int32} (h : JR s A) : JR (uF s 163 0 v) A := h.fr (rfr.rf s).thr
/-- a call of the class and one of the reference are alike: one answer, one state behind them -/
def Sim (X : pm_X) (PR : pm_P) (mc mr : Nat) (as : List Value) : Prop := ∀ (d : Nat) (A : AS), 40 ≤ d → AOK A → ∃ (r : Value) (A' : AS), AOK A' ∧ (∀ s Q, JC s A → (∀ s', JC s' A' → cfr s s' → Q (some r) s') → qP X PR d mc (.ref 8 :: as) s Q) ∧ (∀ s Q, JR s A → (∀ s', JR s' A' → qfr 163 202 s s' → Q (some r) s') → qP X PR d mr (.ref 163 :: as) s Q)
theorem r_M_isMember {X : pm_X} {PR : pm_P} (hP : pm_np PR) {d : Nat} (hd : 2 ≤ d) {s : QST} {M : Nat} (v : Int32) (hM : qE s 164 2 = nI M) : pm_run X pm_Ms PR d 168 [.ref 163, .int v] (qhp s) = some (some (.int (bI (0 ≤ v ∧ v ≤ nI M - 1))), qhp s) := by
  rw [← hM]; exact r_Model_isMember hP hd v (MR_hp s).o (ly_164.a s)
theorem r_M_isThere {X : pm_X} {PR : pm_P} (hP : pm_np PR) {d : Nat} (hd : 2 ≤ d) {s : QST} {M : Nat} (v : Int32) (hM : qE s 164 0 = nI M) : pm_run X pm_Ms PR d 218 [.ref 163, .int v] (qhp s) = some (some (.int (bI (0 ≤ v ∧ v ≤ nI M - 1))), qhp s) := by
  rw [← hM]; exact r_Model_isThere hP hd v (MR_hp s).o (ly_164.a s)
theorem r_M_isTree {X : pm_X} {PR : pm_P} (hP : pm_np PR) {d : Nat} (hd : 2 ≤ d) {s : QST} {M : Nat} (v : Int32) (hM : qE s 164 3 = nI M) : pm_run X pm_Ms PR d 198 [.ref 163, .int v] (qhp s) = some (some (.int (bI (0 ≤ v ∧ v ≤ nI M - 1))), qhp s) := by
  rw [← hM]; exact r_Model_isTree hP hd v (MR_hp s).o (ly_164.a s)
