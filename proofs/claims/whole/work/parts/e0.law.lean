/-! the law's state, its calls -/
theorem pm_ex_ret {X : pm_X} {M : List pm_M} {cf : Nat → List Value → pm_S → Option pm_T} {ty : FieldType} {b : Nat} : ∀ (is : List Instr) (f : pm_F) (t : pm_T), pm_ex X M cf (some ty) b is f = some (.inr t) → ∃ v, t.1 = some v ∧ pm_fit ty v = true := by
  intro is
  induction is with
  | nil => intro f t h; unfold pm_ex at h; cases h
  | cons i is ih =>
    intro f o h
    unfold pm_ex at h
    split at h
    case h_12 mid => 
      repeat' split at h
      all_goals first | (cases h; done) | exact ih _ _ h
    case h_13 mid => 
      repeat' split at h
      all_goals first | (cases h; done) | exact ih _ _ h
    case h_14 mid => 
      repeat' split at h
      all_goals first | (cases h; done) | exact ih _ _ h
    case h_15 => 
      split at h
      · exact ih _ _ h
      · cases h
    all_goals
      repeat' split at h
      all_goals first | (cases h; done) | skip
    · rename_i hr; cases h; exact ⟨_, rfl, hr⟩
    · rename_i hr; cases h; cases hr; exact ⟨_, rfl, rfl⟩
    · rename_i hr; cases h; exact ⟨_, rfl, hr.2⟩
    · rename_i hr; cases hr
theorem pm_go_ret {X : pm_X} {M : List pm_M} {cf : Nat → List Value → pm_S → Option pm_T} {ty : FieldType} {code : List (Nat × List Instr)} : ∀ (F b : Nat) (f : pm_F) (t : pm_T), pm_go X M cf (some ty) code F b f = some t → ∃ v, t.1 = some v ∧ pm_fit ty v = true := by
  intro F
  induction F with
  | zero => intro b f t h; unfold pm_go at h; cases h
  | succ F ih =>
    intro b f t h
    unfold pm_go at h
    split at h
    · cases h
    · split at h
      · cases h
      · exact ih _ _ _ h
      · rename_i t' hg
        cases h
        exact pm_ex_ret _ _ _ hg
theorem run0_ret {X : pm_X} {d mid : Nat} {as : List Value} {S : pm_S} {t : pm_T} {m : pm_M} {ty : FieldType} (hm : pm_Ms[mid]? = some m) (hs : pm_skip mid = false) (ht : m.1.2.2.2 = some ty) (h : pm_run X pm_Ms PR0 d mid as S = some t) : ∃ v, t.1 = some v ∧ pm_fit ty v = true := by
  cases d with
  | zero => unfold pm_run at h; cases h
  | succ d =>
    unfold pm_run at h
    rw [PR0_np mid hs, hm] at h
    simp only at h
    split at h
    · cases h
    · obtain ⟨F, hF⟩ := pm_any_some h
      rw [ht] at hF
      exact pm_go_ret _ _ _ _ hF
/-- the law's state after n calls -/
def LI (n : Nat) (s : QST) : Prop := ∃ A, AOK A ∧ JC s A ∧ JR s A ∧ (qR s).length ≤ 4 * n ∧ qN s ≤ 1000000 + 400 * n
theorem qfr.up {lo hi : Nat} {s s' : QST} (F : qfr lo hi s s') {lo' hi' : Nat} (h1 : lo' ≤ lo) (h2 : hi ≤ hi') : qfr lo' hi' s s' := ⟨fun c hc => F.1 c (by omega), F.2⟩
theorem rC.cg9 {s s' : QST} {c : Nat} {C : Nat → Nat} (h : rC s c C) (e : qE s' c = qE s c) : rC s' c C := h.cg e
theorem JR.cfr {s s' : QST} {A : AS} (h : JR s A) (F : cfr s s') : JR s' A := by
  obtain ⟨h1, h2, h3, h4, h5, h6⟩ := h
  have eE : ∀ c, 163 ≤ c → qE s' c = qE s c := fun c hc => (F.1 c (by omega)).2.1
  have eF : qF s' 163 = qF s 163 := (F.1 163 (by decide)).1
  have eL : qL s' 201 = qL s 201 := (F.1 201 (by decide)).2.2.1
  refine ⟨h1.cg (eE _ (by decide)), fun z => (h2 z).cg (eE _ (by decide)), by rw [eF]; exact h3, fun t ht => (h4 t ht).cg (fun c hc => eE c (by omega)), fun d hd => (h5 d hd).cg (fun c hc => eE c (by omega)) eL, ?_⟩
  obtain ⟨n1, n2, n3, n4, n5, n6⟩ := h6
  exact ⟨by rw [eF]; exact n1, by rw [eF]; exact n2, by rw [eF]; exact n3, by rw [eF]; exact n4, by rw [eF]; exact n5, by rw [eF]; exact n6⟩
theorem qP_run {X : pm_X} {d mid : Nat} {as : List Value} {s : QST} {Q : QPost} (h : qP X PR0 d mid as s Q) : ∃ v s', pm_run X pm_Ms PR0 d mid as (qhp s) = some (v, qhp s') ∧ Q v s' := h
/-- two calls that are alike -/
theorem law_call {X : pm_X} {mc mr n : Nat} {as : List Value} {s : QST} {m : pm_M} {ty : FieldType} (hS : Sim X PR0 mc mr as) (h1 : pm_skip mc = false ∧ ¬ (mc = 106 ∨ mc = 161)) (h2 : pm_skip mr = false ∧ ¬ (mr = 106 ∨ mr = 161)) (hm : pm_Ms[mc]? = some m) (ht : m.1.2.2.2 = some ty) (hI : LI n s) : ∃ r s1 s2, pm_fit ty r = true ∧ pm_run X pm_Ms (PR1 X) 101 mc (.ref 8 :: as) (qhp s) = some (some r, qhp s1) ∧ pm_run X pm_Ms (PR1 X) 101 mr (.ref 163 :: as) (qhp s1) = some (some r, qhp s2) ∧ LI (n + 1) s2 := by
  obtain ⟨A, hA, hC, hR, n1, n2⟩ := hI
  obtain ⟨r, A', hA', hc, hr⟩ := hS 100 A (by decide) hA
  obtain ⟨v, s1, r1, rfl, hC1, F1⟩ := hc s (fun v s' => v = some r ∧ JC s' A' ∧ cfr s s') hC (fun s' h1 h2 => ⟨rfl, h1, h2⟩)
  obtain ⟨v, s2, r2, rfl, hR2, F2⟩ := hr s1 (fun v s' => v = some r ∧ JR s' A' ∧ qfr 163 202 s1 s') (hR.cfr F1) (fun s' h1 h2 => ⟨rfl, h1, h2⟩)
  obtain ⟨w, hw, hfit⟩ := run0_ret hm h1.1 ht r1
  cases hw
  have g : ∀ k, pm_skip k = false ∧ ¬ (k = 106 ∨ k = 161) → PRg X k = pm_run X pm_Ms PR0 100 k := fun k ⟨hk, hk9⟩ => by
    unfold pm_skip at hk
    simp only [Bool.or_eq_false_iff, beq_eq_false_iff_ne] at hk
    unfold PRg
    rw [if_neg hk.1, if_neg hk.2, if_neg hk9]
  refine ⟨r, s1, s2, hfit, by rw [run1, g mc h1]; exact r1, by rw [run1, g mr h2]; exact r2, A', hA', hC1.fr hA' F2 (by omega), hR2, ?_, ?_⟩
  · obtain ⟨l, e, hl⟩ := F1.2.1
    rw [F2.R, e, List.length_append]; omega
  · rw [F2.N]; exact Nat.le_trans F1.2.2 (Nat.le_trans (Nat.add_le_add_right n2 400) (Nat.le_of_eq (by rw [Nat.mul_add, Nat.add_assoc])))
abbrev LL (i : Nat) (l5 l6 l7 : Option Value) : List (Option Value) := [some (.ref 0), some (.ref 8), some (.ref 163), some (.ref 203), some (.int (nI i)), l5, l6, l7]
section
variable {X : pm_X} {PR : pm_P} {d b Ln i k : Nat} {xs : Nat → Int32} {is : List Instr} {l5 l6 l7 : Option Value} {st : List Value} {s : QST} {Q : QPost}
/-- an int of the script -/
theorem lw_arg {n : Int} (hX : X 0 = some (Ln, xs)) (hn : Int32.ofInt n = nI k) (hk : i + k < Ln) (hL : Ln ≤ 3072) (kk : qV X PR d ret cd_law b is (LL i l5 l6 l7) (.int (xs (i + k)) :: st) s Q) : qV X PR d ret cd_law b (.aload 0 :: .iload 4 :: .iconst n :: .iadd :: .iaload :: is) (LL i l5 l6 l7) st s Q := by
  refine qv_aload rfl ?_
  refine qv_iload rfl ?_
  refine qv_iconst (v := nI k) hn ?_
  refine qv_iaddN rfl rfl ?_
  refine qV.of (fun _ z => pe_ialdX hX (by decide) (vp_in_nI hk (by omega)) ?_) kk
  rw [nI_clamp (by omega)]; exact z
end
theorem lg_self {x : Int64} : lg_cmp x x = 0 := by
  unfold lg_cmp
  first | simp | (rw [if_neg (by simp), if_pos rfl])
