/-! the reference's state; places as numbers -/
def msz (k : Nat) : Nat := [200, 200, 12, 12, 1200, 1200, 1200, 1200, 1200, 110, 110, 110, 110, 110, 6, 6, 6, 6, 7, 3, 110, 110, 110, 660, 110, 110, 110, 7, 56, 6, 7, 7, 8, 8, 8, 8, 8].getD k 0
/-- the reference's state: its numbers i, its int arrays a (0 st 1 imaged 2 tMany 3 tQuestions 4 tKind 5 tLeft 6 tRight 7 tX 8 tY 9 nKind 10 nLeft 11 nRight 12 nX 13 nY 14 oKind 15 oLeft 16 oX 17 oY 18 lie 19 likings 20 name 21 inside 22 comes 23 sees 24 voted 25 wins 26 plainWins 27 ends 28 standAt 29 unsure 30 topEnds 31 ringAt 32 holdsWhat 33 shelfHeft 34 shelfFailure 35 rowSort 36 rowMany), its rows r, its row between -/
def MR (S : pm_S) (i : Nat → Int32) (a : Nat → Nat → Int32) (r bt : Nat → Int64) : Prop := pm_h S 163 (.inr (10, mo i)) ∧ (∀ k, k < 37 → pm_h S (164 + k) (.inl (0, msz k, .inl (a k)))) ∧ pm_h S 201 (.inl (1, 960, .inr (.inl r))) ∧ pm_h S 202 (.inl (1, 120, .inr (.inl bt)))
theorem MR.o {S : pm_S} {i : Nat → Int32} {a : Nat → Nat → Int32} {r bt : Nat → Int64} (h : MR S i a r bt) : pm_h S 163 (.inr (10, mo i)) := h.1
theorem MR.a {S : pm_S} {i : Nat → Int32} {a : Nat → Nat → Int32} {r bt : Nat → Int64} (h : MR S i a r bt) (k : Nat) (hk : k < 37) : pm_h S (164 + k) (.inl (0, msz k, .inl (a k))) := h.2.1 k hk
/-- outside the reference's cells nothing changes -/
def mfr (S S' : pm_S) : Prop := S'.1.length = S.1.length ∧ S'.2 = S.2 ∧ ∀ (b : Nat) (e : va_E), ¬ (163 ≤ b ∧ b ≤ 202) → pm_h S b e → pm_h S' b e
theorem mfr.rf (S : pm_S) : mfr S S := ⟨rfl, rfl, fun _ _ _ h => h⟩
theorem mfr.trans {S T U : pm_S} (h : mfr S T) (g : mfr T U) : mfr S U := ⟨g.1.trans h.1, g.2.1.trans h.2.1, fun b e hb he => g.2.2 b e hb (h.2.2 b e hb he)⟩
theorem mfr.put {S : pm_S} {c : Nat} {e : va_E} (hc : 163 ≤ c ∧ c ≤ 202) : mfr S (pm_put S c e) := ⟨by simp [pm_put], rfl, fun b e' hb he => he.ne (fun z => hb (by omega)) (by omega)⟩
theorem MR.putI {S : pm_S} {i : Nat → Int32} {a : Nat → Nat → Int32} {r bt : Nat → Int64} (h : MR S i a r bt) (i' : Nat → Int32) : MR (pm_put S 163 (.inr (10, mo i'))) i' a r bt := by
  obtain ⟨h1, h2, h3, h4⟩ := h
  exact ⟨h1.eq, fun k hk => (h2 k hk).ne (by omega) (by decide), h3.ne (by decide) (by decide), h4.ne (by decide) (by decide)⟩
theorem MR.putA {S : pm_S} {i : Nat → Int32} {a : Nat → Nat → Int32} {r bt : Nat → Int64} (h : MR S i a r bt) (k : Nat) (hk : k < 37) (f : Nat → Int32) : MR (pm_put S (164 + k) (.inl (0, msz k, .inl f))) i (va_up a k f) r bt := by
  obtain ⟨h1, h2, h3, h4⟩ := h
  refine ⟨h1.ne (by omega) (by omega), fun j hj => ?_, h3.ne (by omega) (by omega), h4.ne (by omega) (by omega)⟩
  by_cases e : j = k
  · subst e
    have : va_up a j f j = f := by simp [va_up]
    rw [this]
    exact (h2 j hj).eq
  · have : va_up a k f j = a j := by simp [va_up, e]
    rw [this]
    exact (h2 j hj).ne (by omega) (by omega)
section
variable {X : pm_X} {M : List pm_M} {cf : Nat → List Value → pm_S → Option pm_T} {ret : Option FieldType} {code : List (Nat × List Instr)} {b : Nat} {is : List Instr} {L L' : List (Option Value)} {st : List Value} {S : pm_S} {t : pm_T}
theorem pe_ialdN {i : Int32} {a n j : Nat} {g : Nat → Int32} (h : pm_h S a (.inl (0, n, .inl g))) (hi : i = nI j) (hj : j < n) (hn : n < 2 ^ 31) (k : pm_E X M cf ret code b is (L, .int (g j) :: st, S) t) : pm_E X M cf ret code b (.iaload :: is) (L, .int i :: .ref a :: st, S) t := by
  subst hi
  refine pe_iald h (vp_in_nI hj hn) ?_
  rw [nI_clamp (Nat.lt_trans hj hn)]
  exact k
theorem pe_iastN {x i : Int32} {a n j : Nat} {g : Nat → Int32} (h : pm_h S a (.inl (0, n, .inl g))) (hi : i = nI j) (hj : j < n) (hn : n < 2 ^ 31) (k : pm_E X M cf ret code b is (L, st, pm_put S a (.inl (0, n, .inl (upd g j x)))) t) : pm_E X M cf ret code b (.iastore :: is) (L, .int x :: .int i :: .ref a :: st, S) t := by
  subst hi
  refine pe_iast h (vp_in_nI hj hn) ?_
  rw [nI_clamp (Nat.lt_trans hj hn)]
  exact k
theorem pe_top {x y : Int32} (h : x = y) (k : pm_E X M cf ret code b is (L, .int y :: st, S) t) : pm_E X M cf ret code b is (L, .int x :: st, S) t := by
  subst h; exact k
end
/-- a table of five -/
theorem tab5 {x : Int32} {d a b c e f : Int} : pm_tab d 0 4 #[a, b, c, e, f] x = some (if x = 0 then a else if x = 1 then b else if x = 2 then c else if x = 3 then e else if x = 4 then f else d) := by
  unfold pm_tab
  by_cases h0 : x = 0
  · subst h0; rfl
  by_cases h1 : x = 1
  · subst h1; rfl
  by_cases h2 : x = 2
  · subst h2; rfl
  by_cases h3 : x = 3
  · subst h3; rfl
  by_cases h4 : x = 4
  · subst h4; rfl
  rw [if_neg h0, if_neg h1, if_neg h2, if_neg h3, if_neg h4, if_pos]
  have key : ∀ (z : Int32), x.toInt = z.toInt → x = z := fun z h => Int32.toInt_inj.mp h
  have e0 : ¬ x.toInt = 0 := fun h => h0 (key 0 h)
  have e1 : ¬ x.toInt = 1 := fun h => h1 (key 1 h)
  have e2 : ¬ x.toInt = 2 := fun h => h2 (key 2 h)
  have e3 : ¬ x.toInt = 3 := fun h => h3 (key 3 h)
  have e4 : ¬ x.toInt = 4 := fun h => h4 (key 4 h)
  omega
def sp_heft (st : Nat → Int32) (m : Nat) : Int32 := if st (10 + m) = 0 then st (20 + m) else if st (10 + m) = 1 then st (20 + m) + 1 else if st (10 + m) = 2 then st (20 + m) + 1 + st (30 + m) else if st (10 + m) = 3 then 2 * st (20 + m) else if st (10 + m) = 4 then 2 * st (20 + m) - 1 else st (20 + m) / 2
theorem ms_Model_heftOf : pm_Ms[176]? = some md_Model_heftOf := rfl
theorem ms_Model_members : pm_Ms[189]? = some md_Model_members := rfl
theorem ms_Model_voicesOf : pm_Ms[193]? = some md_Model_voicesOf := rfl
theorem ms_Model_kindOf : pm_Ms[204]? = some md_Model_kindOf := rfl
theorem ms_Model_partyOf : pm_Ms[206]? = some md_Model_partyOf := rfl
theorem ms_Model_endFor : pm_Ms[208]? = some md_Model_endFor := rfl
theorem ms_Model_liked : pm_Ms[192]? = some md_Model_liked := rfl
theorem ms_Model_placeIn : pm_Ms[191]? = some md_Model_placeIn := rfl
theorem ms_Model_wishOf : pm_Ms[190]? = some md_Model_wishOf := rfl
theorem ms_Model_margin : pm_Ms[188]? = some md_Model_margin := rfl
theorem ms_Model_beats : pm_Ms[196]? = some md_Model_beats := rfl
theorem ms_Model_standing : pm_Ms[195]? = some md_Model_standing := rfl
theorem ms_Model_sign : pm_Ms[205]? = some md_Model_sign := rfl
theorem ms_Model_partySign : pm_Ms[207]? = some md_Model_partySign := rfl
theorem ms_Model_voteOf : pm_Ms[203]? = some md_Model_voteOf := rfl
section
variable {X : pm_X} {PR : pm_P} {S : pm_S} {i : Nat → Int32} {a : Nat → Nat → Int32} {r bt : Nat → Int64}
theorem r_Model_heftOf (hP : pm_np PR) {d : Nat} (hd : 1 ≤ d) (hM : MR S i a r bt) {m : Nat} (hm : m < 10) : pm_run X pm_Ms PR d 176 [.ref 163, .int (nI m)] S = some (some (.int (sp_heft (a 0) m)), S) := by
  refine pm_run_of (L := [_, _, _]) (by omega) (hP _ rfl) ms_Model_heftOf rfl ?_
  show pm_to _ _ _ (some .int) cd_Model_heftOf 0 _ _
  refine pm_to.blk rfl ?_
  refine pe_aload rfl ?_
  refine pe_getf hM.o rfl rfl ?_
  refine pe_iconst (v := 20) rfl ?_
  refine pe_iload rfl ?_
  refine pe_iadd ?_
  refine pe_ialdN (hM.a 0 (by decide)) (nI_add 20 m) (by show 20 + m < 200; omega) (by decide) ?_
  refine pe_istore (L' := [_, _, _]) rfl ?_
  refine pe_aload rfl ?_
  refine pe_getf hM.o rfl rfl ?_
  refine pe_iconst (v := 10) rfl ?_
  refine pe_iload rfl ?_
  refine pe_iadd ?_
  refine pe_ialdN (hM.a 0 (by decide)) (nI_add 10 m) (by show 10 + m < 200; omega) (by decide) ?_
  refine pe_table tab5 rfl ?_
  unfold sp_heft
  by_cases h0 : a 0 (10 + m) = 0
  · simp only [h0, if_true]
    refine pm_to.blk rfl ?_
    refine pe_iload rfl ?_
    exact pe_iret rfl rfl
  by_cases h1 : a 0 (10 + m) = 1
  · simp only [h0, h1, if_true, if_false]
    refine pm_to.blk rfl ?_
    refine pe_iload rfl ?_
    refine pe_iconst (v := 1) rfl ?_
    refine pe_iadd ?_
    exact pe_iret rfl rfl
  by_cases h2 : a 0 (10 + m) = 2
  · simp only [h0, h1, h2, if_true, if_false]
    refine pm_to.blk rfl ?_
    refine pe_iload rfl ?_
    refine pe_iconst (v := 1) rfl ?_
    refine pe_iadd ?_
    refine pe_aload rfl ?_
    refine pe_getf hM.o rfl rfl ?_
    refine pe_iconst (v := 30) rfl ?_
    refine pe_iload rfl ?_
    refine pe_iadd ?_
    refine pe_ialdN (hM.a 0 (by decide)) (nI_add 30 m) (by show 30 + m < 200; omega) (by decide) ?_
    refine pe_iadd ?_
    exact pe_iret rfl rfl
  by_cases h3 : a 0 (10 + m) = 3
  · simp only [h0, h1, h2, h3, if_true, if_false]
    refine pm_to.blk rfl ?_
    refine pe_iconst (v := 2) rfl ?_
    refine pe_iload rfl ?_
    refine pe_imul ?_
    exact pe_iret rfl rfl
  by_cases h4 : a 0 (10 + m) = 4
  · simp only [h0, h1, h2, h3, h4, if_true, if_false]
    refine pm_to.blk rfl ?_
    refine pe_iconst (v := 2) rfl ?_
    refine pe_iload rfl ?_
    refine pe_imul ?_
    refine pe_iconst (v := 1) rfl ?_
    refine pe_isub ?_
    exact pe_iret rfl rfl
  simp only [h0, h1, h2, h3, h4, if_false]
  refine pm_to.blk rfl ?_
  refine pe_iload rfl ?_
  refine pe_iconst (v := 2) rfl ?_
  refine pe_idiv (by decide) ?_
  exact pe_iret rfl rfl
end
