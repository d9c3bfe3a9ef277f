/-! toss: what it answers, and that the machine's run is so -/
def exS (s : QST) (ci : Nat) : QST := uR s (qR s ++ [.inr (ci, [])]) (qN s + 6)
def exH (S : pm_S) (ci : Nat) : pm_S := (S.1 ++ [.inr (ci, [])], S.2 + 6)
theorem qhp_ex {s : QST} {ci : Nat} : qhp (exS s ci) = exH (qhp s) ci := by
  unfold exS exH
  rw [qhp_uR, qhp_1, qhp_2, List.append_assoc]
/-- an int in a field of an object -/
def fI (S : pm_S) (c j : Nat) : Int32 := match S.1[c - 8]? with
  | some (.inr (_, fs)) => match fs[j]? with
    | some (.int x) => x
    | _ => 0
  | _ => 0
theorem fI_of {S : pm_S} {c j ci : Nat} {fs : List Value} {x : Int32} (h : pm_h S c (.inr (ci, fs))) (hx : fs[j]? = some (.int x)) : fI S c j = x := by
  unfold fI; rw [h.2]; simp only [hx]
theorem fI_q {s : QST} {c ci j : Nat} {ts : List Nat} (h : qLY c (1, ci, ts)) (hj : ts[j]? = some 0) : fI (qhp s) c j = qF s c j := by
  refine fI_of (h.o s) ?_
  rw [qfs_get, hj]; simp
def tossG (S : pm_S) (c : Nat) : Option pm_T :=
  if fI S c 0 = 0 then some (some (.int (-11)), S) else if fI S c 0 = 2 then some (some (.int (-12)), S) else if fI S c 0 = 1 then
    (if fI S (c + 1) 1 = 3 ∨ (fI S (c + 1) 1 = 5 ∧ fI S (c + 1) 2 = 1) then some (some (.int (-15)), S)
     else if fI S (c + 1) 1 = 4 then some (some (.int (100 + fI S (c + 1) 4 + fI S (c + 1) 0)), exH S 13)
     else some (some (.int (fI S (c + 1) 0)), exH S 12)) else none
noncomputable def tossF (S : pm_S) (v : Int32) : Option pm_T := @ite _ (∃ s, S = qhp s) (Classical.propDecidable _) (@ite _ (∃ k, k < 8 ∧ v = nI k) (Classical.propDecidable _) (tossG S (123 + 5 * v.toNatClampNeg)) (some (some (.int (-1)), S))) none
noncomputable def gtoss (as : List Value) (S : pm_S) : Option pm_T := match as with
  | [.ref 8, .int v] => tossF S v
  | _ => none
theorem gd_V {own C : String} {idx : Nat} {y : MethodName} {w0 : Cond} (h1 : Cond.methodLink own idx y ∈ pm_tbl) (h2 : Cond.instanceMethod y ∈ pm_tbl) (h3 : Cond.selects C y y ∈ pm_tbl) (h4 : Cond.initialized C ∈ pm_tbl) (h5 : w0 ∈ pm_tbl) : GoodIn pm_tbl (wsV own idx C y (w0 :: pm_tbl)) := by
  intro w hw
  unfold wsV at hw
  rcases List.mem_append.mp hw with hw | hw
  · simp only [List.mem_cons, List.not_mem_nil, or_false] at hw
    rcases hw with rfl | rfl | rfl | rfl
    · exact pm_goodw h1
    · exact pm_goodw h2
    · exact pm_goodw h3
    · exact pm_goodw h4
  · rcases List.mem_cons.mp hw with rfl | hw
    · exact pm_goodw h5
    · exact pm_goodw hw
theorem LR_set {ad : Nat → Nat} {nL i : Nat} {L : List (Option Value)} {ls ls' : Array Slot} {w : Value} (h : pm_LR ad nL L ls) (hp : ∀ j v, j + 1 = i → L[j]? = some (some v) → v.category ≠ 2) (h' : lv_has ls' nL ((i, w) :: (pm_pairs ad L).filter (fun q => !(q.1 == i) && !(q.1 + 1 == i && q.2.category == 2)))) : pm_LR ad nL (L.set i none) ls' := by
  refine ⟨by rw [List.length_set]; exact h.1, h'.1, h'.2.1, fun j v hj => ?_⟩
  rw [List.getElem?_set] at hj
  split at hj
  · split at hj <;> cases hj
  · rename_i hne
    refine h'.2.2 (j, pm_cv ad v) (List.mem_cons_of_mem _ (List.mem_filter.mpr ⟨pm_pairs_mem.mpr ⟨v, hj, rfl⟩, ?_⟩))
    have e1 : (j == i) = false := by
      simp only [beq_eq_false_iff_ne]
      exact fun z => hne z.symm
    simp only [pm_cv_cat, e1]
    simp only [Bool.not_false, Bool.true_and, Bool.not_eq_true', Bool.and_eq_false_iff, beq_eq_false_iff_ne]
    by_cases z : j + 1 = i
    · exact Or.inr (hp j v z hj)
    · exact Or.inl z
section
variable {X : pm_X} {d : Nat} {s : QST}
theorem toss_runN (hd : 2 ≤ d) {v : Int32} (hn : ¬ ∃ m, m < 8 ∧ v = nI m) : qW X PR0 d (some .int) cp_toss 0 [some (.ref 8), some (.int v), none, none, none, none] [] s (fun r s' => r = some (.int (-1)) ∧ s' = s) := by
  refine qW.blk rfl ?_
  refine qv_aload rfl ?_
  refine qv_iload rfl ?_
  refine qv_virtE (ly_8.rcv _) sg_Desk_shelfAt rfl rfl (r_shelfAt_n PR0_np hd hn) ?_
  refine qv_astoreN (L' := [_, _, _, _, _, _]) rfl ?_
  refine qv_aloadN rfl ?_
  refine qv_iconst (v := 1) rfl ?_
  refine qv_staticE sg_Desk_refusalOf rfl (r_refusalNull PR0_np (by omega) _) ?_
  refine qv_istore (L' := [_, _, _, _, _, _]) rfl ?_
  refine qv_aloadN rfl ?_
  refine qv_null_t (tgt := 2) rfl ?_
  refine qW.blk rfl ?_
  refine qv_iload rfl ?_
  exact qv_iret rfl ⟨rfl, rfl⟩
theorem toss_runR (hd : 4 ≤ d) {k h : Nat} (hk : k < 8) (h0 : qF s (123 + 5 * k) 0 = nI h) (hh : h ≤ 2) (hr : refU h 1 ≠ 0) : qW X PR0 d (some .int) cp_toss 0 [some (.ref 8), some (.int (nI k)), none, none, none, none] [] s (fun r s' => r = some (.int (refU h 1)) ∧ s' = s) := by
  refine qW.blk rfl ?_
  refine qv_aload rfl ?_
  refine qv_iload rfl ?_
  refine qv_virtE (ly_8.rcv _) sg_Desk_shelfAt rfl rfl (r_shelfAt_y PR0_np (by omega) hk) ?_
  refine qv_astore (L' := [_, _, _, _, _, _]) rfl ?_
  refine qv_aload rfl ?_
  refine qv_iconst (v := 1) rfl ?_
  refine qv_staticE sg_Desk_refusalOf rfl (r_memberRefusal PR0_np (by omega) hk h0 hh) ?_
  refine qv_istore (L' := [_, _, _, _, _, _]) rfl ?_
  refine qv_aload rfl ?_
  refine qv_null_f (nx := 1) rfl ?_
  refine qW.blk rfl ?_
  refine qv_iload rfl ?_
  refine qv_if_eq_f hr (nx := 2) rfl ?_
  refine qW.blk rfl ?_
  refine qv_iload rfl ?_
  exact qv_iret rfl ⟨rfl, rfl⟩
theorem toss_runM (hd : 4 ≤ d) {k : Nat} (hk : k < 8) (h0 : qF s (123 + 5 * k) 0 = nI 1) : qW X PR0 d (some (.object "x")) cp_toss 0 [some (.ref 8), some (.int (nI k)), none, none, none, none] [] s (fun r s' => r = some (.ref (123 + 5 * k + 1)) ∧ s' = s) := by
  refine qW.blk rfl ?_
  refine qv_aload rfl ?_
  refine qv_iload rfl ?_
  refine qv_virtE (ly_8.rcv _) sg_Desk_shelfAt rfl rfl (r_shelfAt_y PR0_np (by omega) hk) ?_
  refine qv_astore (L' := [_, _, _, _, _, _]) rfl ?_
  refine qv_aload rfl ?_
  refine qv_iconst (v := 1) rfl ?_
  refine qv_staticE sg_Desk_refusalOf rfl (r_memberRefusal PR0_np (by omega) hk h0 (by decide)) ?_
  refine qv_istore (L' := [_, _, _, _, _, _]) rfl ?_
  refine qv_aload rfl ?_
  refine qv_null_f (nx := 1) rfl ?_
  refine qW.blk rfl ?_
  refine qv_iload rfl ?_
  refine qv_if_eq_t rfl (tgt := 3) rfl ?_
  refine qW.blk rfl ?_
  refine qv_aload rfl ?_
  refine qv_gr (ly_sh hk) ⟨rfl, rfl, rfl⟩ (by omega) ?_
  refine qv_astore (L' := [_, _, _, _, _, _]) rfl ?_
  refine qv_nil (nx := 4) rfl ?_
  refine qW.blk rfl ?_
  refine qv_aload rfl ?_
  exact qv_aret ⟨rfl, rfl⟩ ⟨rfl, rfl⟩
theorem toss_run6 {L : List (Option Value)} : qW X PR0 d (some .int) cp_toss 6 L [] s (fun r s' => r = some (.int (-15)) ∧ s' = s) := by
  refine qW.blk rfl ?_
  refine qv_goto (tgt := 11) rfl ?_
  refine qW.blk rfl ?_
  refine qv_iconst (v := -15) rfl ?_
  exact qv_iret rfl ⟨rfl, rfl⟩
theorem toss_run8 {L : List (Option Value)} {k : Nat} (hk : k < 8) (hL : pm_ld L 4 = some (.ref (123 + 5 * k + 1))) : qW X PR0 d (some .int) cp_toss 8 L [] s (fun r s' => r = some (.int (100 + qF s (123 + 5 * k + 1) 4 + qF s (123 + 5 * k + 1) 0)) ∧ s' = s) := by
  refine qW.blk rfl ?_
  refine qv_iconst (v := 100) rfl ?_
  refine qv_aload hL ?_
  refine qv_gi (mb_sh hk).1 ⟨rfl, rfl, rfl⟩ rfl ?_
  refine qv_iadd ?_
  refine qv_aload hL ?_
  refine qv_gi (mb_sh hk).1 ⟨rfl, rfl, rfl⟩ rfl ?_
  refine qv_iadd ?_
  exact qv_iret rfl ⟨rfl, rfl⟩
theorem toss_run10 {L : List (Option Value)} {k : Nat} (hk : k < 8) (hL : pm_ld L 4 = some (.ref (123 + 5 * k + 1))) : qW X PR0 d (some .int) cp_toss 10 L [] s (fun r s' => r = some (.int (qF s (123 + 5 * k + 1) 0)) ∧ s' = s) := by
  refine qW.blk rfl ?_
  refine qv_aload hL ?_
  refine qv_gi (mb_sh hk).1 ⟨rfl, rfl, rfl⟩ rfl ?_
  exact qv_iret rfl ⟨rfl, rfl⟩
theorem qW.to {ret : Option FieldType} {code : List (Nat × List Instr)} {b : Nat} {L : List (Option Value)} {r : Value} (h : qW X PR0 d ret code b L [] s (fun v s' => v = some r ∧ s' = s)) : ∃ F, pm_go X pm_Ms (pm_run X pm_Ms PR0 d) ret code F b (L, [], qhp s) = some (some r, qhp s) := by
  obtain ⟨v, s', h1, rfl, rfl⟩ := h
  exact h1
end
theorem exH_le {S : pm_S} {ci : Nat} : pm_le S (exH S ci) := ⟨by simp [exH], by show S.2 ≤ S.2 + 6; omega⟩
theorem pm_le_rf {S : pm_S} : pm_le S S := ⟨Nat.le_refl _, Nat.le_refl _⟩
theorem gtoss_cases {v : Int32} {S : pm_S} {t : pm_T} (h : gtoss [.ref 8, .int v] S = some t) : ∃ s, S = qhp s ∧ (((¬ ∃ k, k < 8 ∧ v = nI k) ∧ t = (some (.int (-1)), S)) ∨ ∃ k, k < 8 ∧ v = nI k ∧ ((qF s (123 + 5 * k) 0 = nI 0 ∧ t = (some (.int (-11)), S)) ∨ (qF s (123 + 5 * k) 0 = nI 2 ∧ t = (some (.int (-12)), S)) ∨ (qF s (123 + 5 * k) 0 = nI 1 ∧
    (((qF s (123 + 5 * k + 1) 1 = 3 ∨ (qF s (123 + 5 * k + 1) 1 = 5 ∧ qF s (123 + 5 * k + 1) 2 = 1)) ∧ t = (some (.int (-15)), S)) ∨ (qF s (123 + 5 * k + 1) 1 = 4 ∧ t = (some (.int (100 + qF s (123 + 5 * k + 1) 4 + qF s (123 + 5 * k + 1) 0)), exH S 13)) ∨
     (¬ (qF s (123 + 5 * k + 1) 1 = 3 ∨ (qF s (123 + 5 * k + 1) 1 = 5 ∧ qF s (123 + 5 * k + 1) 2 = 1)) ∧ ¬ qF s (123 + 5 * k + 1) 1 = 4 ∧ t = (some (.int (qF s (123 + 5 * k + 1) 0)), exH S 12)))))) := by
  have h' : tossF S v = some t := h
  unfold tossF at h'
  split at h'
  · rename_i hs
    obtain ⟨s, rfl⟩ := hs
    refine ⟨s, rfl, ?_⟩
    split at h'
    · rename_i hk
      obtain ⟨k, hk, rfl⟩ := hk
      refine Or.inr ⟨k, hk, rfl, ?_⟩
      rw [show (nI k).toNatClampNeg = k from nI_clamp (by omega)] at h'
      unfold tossG at h'
      rw [fI_q (ly_sh hk) rfl, fI_q (mb_sh hk).1 rfl, fI_q (mb_sh hk).1 rfl, fI_q (mb_sh hk).1 rfl, fI_q (mb_sh hk).1 rfl] at h'
      split at h'
      · rename_i h1; cases h'; exact Or.inl ⟨h1, rfl⟩
      · split at h'
        · rename_i h1; cases h'; exact Or.inr (Or.inl ⟨h1, rfl⟩)
        · split at h'
          · rename_i h1
            refine Or.inr (Or.inr ⟨h1, ?_⟩)
            split at h'
            · rename_i h2; cases h'; exact Or.inl ⟨h2, rfl⟩
            · split at h'
              · rename_i h2; cases h'; exact Or.inr (Or.inl ⟨h2, rfl⟩)
              · rename_i h2 h3; cases h'; exact Or.inr (Or.inr ⟨h2, h3, rfl⟩)
          · cases h'
    · rename_i hk
      cases h'
      exact Or.inl ⟨hk, rfl⟩
  · cases h'
theorem gtoss_le {v : Int32} {S : pm_S} {t : pm_T} (h : gtoss [.ref 8, .int v] S = some t) : pm_le S t.2 := by
  obtain ⟨s, -, ⟨-, rfl⟩ | ⟨k, -, -, ⟨-, rfl⟩ | ⟨-, rfl⟩ | ⟨-, ⟨-, rfl⟩ | ⟨-, rfl⟩ | ⟨-, -, rfl⟩⟩⟩⟩ := gtoss_cases h
  · exact pm_le_rf
  · exact pm_le_rf
  · exact pm_le_rf
  · exact pm_le_rf
  · exact exH_le
  · exact exH_le
