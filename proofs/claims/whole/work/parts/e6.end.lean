/-! the start, and the claim -/
def A0 : AS := (fun k => if k = 0 then 3 else 0, fun k => if k = 0 then 3 else 0, 0, fun _ => (fun _ => (0, 0, 0, 0, 0), fun _ => (0, 0, 0, 0, 0), fun k => k, 0, 0, 0, 0), fun _ => (0, 0, 0, fun _ => 0, fun _ => 0))
def ok0 (H : pm_S) : Bool := (List.range 4).all (fun k => fI H 9 k == (if k = 0 then 3 else 0)) && (fI H 8 2 == 0 && ((List.range 8).all (fun d => fI H (123 + 5 * d) 0 == 0) && ((List.range 200).all (fun k => iA H 164 k == (if k = 0 then 3 else 0)) && (fI H 163 3 == 0 && ((List.range 8).all (fun d => iA H 196 d == 0) && (fI H 163 28 == -1 && (fI H 163 29 == 0 && (fI H 163 30 == 0 && (fI H 163 31 == -1 && (fI H 163 33 == 0 && fI H 163 35 == 0))))))))))
theorem ok0_3 : ok0 hp3 = true := by decide +kernel
theorem A0_ok : AOK A0 := by
  refine ⟨⟨by decide, by decide, by decide, by decide, by decide, fun m hm => absurd hm (Nat.not_lt_zero m)⟩, by decide, fun h => absurd h (by decide), fun t ht => absurd ht (Nat.not_lt_zero t), fun d hd => ⟨by show 0 ≤ 2; decide, by show 0 ≤ 2; decide, by show 0 ≤ 120; decide, fun h => absurd (show (0 : Nat) = 2 from h) (by decide), fun h => absurd (show (0 : Nat) = 1 from h) (by decide)⟩⟩
theorem start_J {H : pm_S} (h : ok0 H = true) : JC (qof H) A0 ∧ JR (qof H) A0 := by
  unfold ok0 at h
  simp only [Bool.and_eq_true, beq_iff_eq] at h
  obtain ⟨h1, h2, h3, h4, h5, h6, n1, n2, n3, n4, n5, n6⟩ := h
  have g1 : ∀ k, k < 4 → fI H 9 k = (if k = 0 then 3 else 0) := fun k hk => by simpa using List.all_eq_true.mp h1 k (List.mem_range.mpr hk)
  have g3 : ∀ d, d < 8 → fI H (123 + 5 * d) 0 = 0 := fun k hk => by simpa using List.all_eq_true.mp h3 k (List.mem_range.mpr hk)
  have g4 : ∀ k, k < 200 → iA H 164 k = (if k = 0 then 3 else 0) := fun k hk => by simpa using List.all_eq_true.mp h4 k (List.mem_range.mpr hk)
  have g6 : ∀ d, d < 8 → iA H 196 d = 0 := fun k hk => by simpa using List.all_eq_true.mp h6 k (List.mem_range.mpr hk)
  refine ⟨⟨⟨g1 0 (by decide), g1 1 (by decide), g1 2 (by decide), g1 3 (by decide), fun m hm => absurd hm (Nat.not_lt_zero m)⟩, h2, fun z => absurd z (by decide), fun t ht => absurd ht (Nat.not_lt_zero t), fun d hd => ⟨g3 d hd, fun z => absurd (show (0 : Nat) = 2 from z) (by decide), fun z => absurd (show (0 : Nat) = 1 from z) (by decide)⟩⟩, ?_⟩
  refine ⟨fun k hk => ?_, fun z => absurd z (by decide), h5, fun t ht => absurd ht (Nat.not_lt_zero t), fun d hd => ⟨g6 d hd, fun z => absurd (show (0 : Nat) = 2 from z) (by decide), fun z => absurd (show (0 : Nat) = 1 from z) (by decide)⟩, n1, n2, n3, n4, n5, n6⟩
  show iA H 164 k = nI (if k = 0 then 3 else 0)
  rw [g4 k hk]
  split <;> rfl
theorem start_LI : LI 0 (qof hp3) := by
  obtain ⟨h1, h2⟩ := start_J ok0_3
  refine ⟨A0, A0_ok, h1, h2, Nat.zero_le _, ?_⟩
  show hp2.2 + 1 ≤ 1000000 + 400 * 0
  have := hp2_eq.2.2
  omega
section
variable {X : pm_X} {M : List pm_M} {cf : Nat → List Value → pm_S → Option pm_T} {ret9 : Option FieldType} {code9 : List (Nat × List Instr)} {b : Nat} {is : List Instr} {L : List (Option Value)} {st : List Value} {S : pm_S} {t : pm_T}
theorem pe_newal {n : Int32} {a m : Nat} (hn : ¬ (n < 0 ∨ 100000 ≤ n.toNatClampNeg)) (hm : n.toNatClampNeg = m) (ha : 8 + S.1.length = a) (k : pm_E X M cf ret9 code9 b is (L, .ref a :: st, (S.1 ++ [.inl (1, m, .inr (.inl (fun _ => 0)))], S.2 + m)) t) : pm_E X M cf ret9 code9 b (.newarray .long :: is) (L, .int n :: st, S) t := by
  subst hm
  subst ha
  refine pe_step (f' := _) rfl ?_ k
  simp only [pm_op, pm_newa, hn, if_false]
end
theorem law_ini {X : pm_X} {k : Nat} (hk : k = 106 ∨ k = 161) {as : List Value} {S : pm_S} : pm_run X pm_Ms (PR1 X) 101 k as S = inip k as S := by
  rw [run1]
  unfold PRg
  rw [if_neg (by rcases hk with rfl | rfl <;> decide), if_neg (by rcases hk with rfl | rfl <;> decide), if_pos hk]
theorem law_run {L : Nat} {xs : Nat → Int32} (hL : L ≤ 3072) : pm_Law1 L xs := by
  have hX : pm_X0 L xs 0 = some (L, xs) := rfl
  obtain ⟨v, s', hto, rfl, c, hc, A, -, -, -, e1, e2⟩ := lw_loop hX hL 513 0 0 (qof hp3) none none none (Nat.zero_le _) (Nat.le_refl _) start_LI (by omega)
  rw [q0_hp] at hto
  unfold hp3 at hto
  have hfin : pm_to (pm_X0 L xs) pm_Ms (pm_run (pm_X0 L xs) pm_Ms (PR1 (pm_X0 L xs)) 101) ret cd_law 0 ([some (.ref 0), none, none, none, none, none, none, none], [], ([], 0)) (some (.int 1), qhp s') := by
    refine pm_to.blk (pc := 0) rfl ?_
    refine pe_new (a := 8) (by decide) rfl rfl ?_
    refine pe_dup rfl ?_
    refine pe_spec sg_Desk_init rfl ((law_ini (Or.inl rfl)).trans hp1_eq.1) ?_
    refine pe_astore (L' := [_, _, _, _, _, _, _, _]) rfl ?_
    refine pe_new (a := 163) (by decide) (by rw [hp1_eq.2]) rfl ?_
    refine pe_dup rfl ?_
    refine pe_spec sg_Model_init rfl ((law_ini (Or.inr rfl)).trans hp2_eq.1) ?_
    refine pe_astore (L' := [_, _, _, _, _, _, _, _]) rfl ?_
    refine pe_iconst (v := 1) rfl ?_
    refine pe_newal (a := 203) (m := 1) (by decide) (by decide) (by rw [hp2_eq.2.1]) ?_
    refine pe_astore (L' := [_, _, _, _, _, _, _, _]) rfl ?_
    refine pe_iconst (v := 0) rfl ?_
    refine pe_istore (L' := LL (6 * 0) none none none) rfl ?_
    refine pe_nil (nx := 1) rfl ?_
    exact hto
  obtain ⟨F, hF⟩ := hfin
  refine ⟨F, qhp s', ?_, ?_, hF⟩
  · rw [qhp_len]; omega
  · rw [qhp_2]; omega
