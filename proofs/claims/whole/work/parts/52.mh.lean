/-! the reference's and the hall's pictures of the heap as a function of numbers -/
theorem MR_hp (s : QST) : MR (qhp s) (qF s 163) (fun k => qE s (164 + k)) (qL s 201) (qL s 202) := ⟨ly_163.o s, fun _ hk => (ly_ma hk).a s, ly_201.l s, ly_202.l s⟩
theorem MR_back {s : QST} {S' : pm_S} {i' : Nat → Int32} {a' : Nat → Nat → Int32} {r' bt' : Nat → Int64} (h : MR S' i' a' r' bt') (f : mfr (qhp s) S') : ∃ s', S' = qhp s' ∧ qF s' 163 = i' ∧ (∀ k, k < 37 → qE s' (164 + k) = a' k) ∧ qL s' 201 = r' ∧ qL s' 202 = bt' ∧ qfr 163 202 s s' ∧ (∀ c, ¬ (164 ≤ c ∧ c ≤ 200) → qE s' c = qE s c) ∧ (∀ c, c ≠ 201 → c ≠ 202 → qL s' c = qL s c) := by
  obtain ⟨h1, h2, h3, h4⟩ := h
  obtain ⟨f1, f2, f3⟩ := f
  refine ⟨(qua (qF s) 163 i', fun c => if 164 ≤ c ∧ c ≤ 200 then a' (c - 164) else qE s c, fun c => if c = 201 then r' else if c = 202 then bt' else qL s c, qT s, qX s, qR s, qN s), ?_, ?_, ?_, ?_, ?_, ?_, ?_, ?_⟩
  · refine qhp_ext ?_ ?_ ?_ ?_
    · rw [f1, qhp_len]; rfl
    · exact f2
    · intro c c1 c2
      by_cases e1 : c = 163
      · subst e1; rw [qcel_1 ly_163]; exact h1
      by_cases e2 : 164 ≤ c ∧ c ≤ 200
      · obtain ⟨k, rfl⟩ : ∃ k, c = 164 + k := ⟨c - 164, by omega⟩
        rw [qcel_0 (ly_ma (k := k) (by omega))]
        have := h2 k (by omega)
        have e : qE ((qua (qF s) 163 i', fun c => if 164 ≤ c ∧ c ≤ 200 then a' (c - 164) else qE s c, fun c => if c = 201 then r' else if c = 202 then bt' else qL s c, qT s, qX s, qR s, qN s) : QST) (164 + k) = a' k := by
          show (if 164 ≤ 164 + k ∧ 164 + k ≤ 200 then a' (164 + k - 164) else _) = _
          rw [if_pos e2, Nat.add_sub_cancel_left]
        rw [e]
        exact this
      by_cases e3 : c = 201
      · subst e3; rw [qcel_4 ly_201]; exact h3
      by_cases e4 : c = 202
      · subst e4; rw [qcel_4 ly_202]; exact h4
      refine Eq.mpr (congrArg (pm_h S' c) (qcel_cg (s := s) ?_ ?_ ?_ rfl rfl)) (f3 c _ (by omega) (qhp_cell c1 c2))
      · show qua (qF s) 163 i' c = _
        unfold qua; rw [if_neg e1]
      · show (if 164 ≤ c ∧ c ≤ 200 then _ else _) = _
        rw [if_neg e2]
      · show (if c = 201 then _ else if c = 202 then _ else _) = _
        rw [if_neg e3, if_neg e4]
    · intro k e he
      exact f3 _ _ (by omega) (qhp_rest (by omega) (by rw [show 204 + k - 204 = k by omega]; exact he))
  · show qua (qF s) 163 i' 163 = _
    unfold qua; rw [if_pos rfl]
  · intro k hk
    show (if 164 ≤ 164 + k ∧ 164 + k ≤ 200 then a' (164 + k - 164) else _) = _
    rw [if_pos (by omega), Nat.add_sub_cancel_left]
  · rfl
  · rfl
  · refine ⟨fun c hc => ⟨?_, ?_, ?_, rfl⟩, rfl, rfl, rfl⟩
    · show qua (qF s) 163 i' c = _
      unfold qua; rw [if_neg (by omega)]
    · show (if 164 ≤ c ∧ c ≤ 200 then _ else _) = _
      rw [if_neg (by omega)]
    · show (if c = 201 then _ else if c = 202 then _ else _) = _
      rw [if_neg (by omega), if_neg (by omega)]
  · intro c hc
    show (if 164 ≤ c ∧ c ≤ 200 then _ else _) = _
    rw [if_neg hc]
  · intro c h1 h2
    show (if c = 201 then _ else if c = 202 then _ else _) = _
    rw [if_neg h1, if_neg h2]
theorem qfs_mb {s : QST} {A : Nat} (h : 8 ≤ A) : qfs s A 0 [0, 0, 0, 0, 0, 0, A + 1, A + 2] = mbr (qF s A) A := by
  have e1 : ∀ x y : Value, (if A + 1 = 0 then x else if A + 1 = 1 then y else .ref (A + 1)) = .ref (A + 1) := fun x y => by rw [if_neg (by omega), if_neg (by omega)]
  have e2 : ∀ x y : Value, (if A + 2 = 0 then x else if A + 2 = 1 then y else .ref (A + 2)) = .ref (A + 2) := fun x y => by rw [if_neg (by omega), if_neg (by omega)]
  unfold mbr
  simp only [qfs]
  rw [e1, e2]
  rfl
theorem MB_hp {A : Nat} (h : qMB A) (s : QST) : MB (qhp s) A (qF s A) (qE s (A + 1)) (qE s (A + 2)) := by
  refine ⟨?_, h.2.1.a s, h.2.2.a s⟩
  have := h.1.o s
  rw [qfs_mb h.1.1] at this
  exact this
theorem ly_hb {k : Nat} (h : k < 8) : qLY (76 + k) (0, hsz k, []) := by
  rcases (show k = 0 ∨ k = 1 ∨ k = 2 ∨ k = 3 ∨ k = 4 ∨ k = 5 ∨ k = 6 ∨ k = 7 by omega) with rfl | rfl | rfl | rfl | rfl | rfl | rfl | rfl
  · exact ly_76
  · exact ly_77
  · exact ly_78
  · exact ly_79
  · exact ly_80
  · exact ly_81
  · exact ly_82
  · exact ly_83
theorem HR_hp (s : QST) : HR (qhp s) (qF s 74) (fun k => qE s (76 + k)) (fun m => qF s (84 + 3 * m)) (fun m => qE s (84 + 3 * m + 1)) (fun m => qE s (84 + 3 * m + 2)) := by
  refine ⟨ly_74.o s, ⟨_, ly_75.r s, fun m hm => ?_⟩, fun k hk => (ly_hb hk).a s, fun m hm => MB_hp (mb_seat hm) s⟩
  show (if m < 9 then some (84 + 3 * m) else none) = _
  rw [if_pos hm]
