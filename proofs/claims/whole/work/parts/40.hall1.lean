/-! the class: members, the hall, who beats whom -/
section
variable {X : pm_X} {M : List pm_M} {cf : Nat → List Value → pm_S → Option pm_T} {ret : Option FieldType} {code : List (Nat × List Instr)} {b : Nat} {is : List Instr} {L L' : List (Option Value)} {st : List Value} {S : pm_S} {t : pm_T}
theorem pe_aaldN {i : Int32} {a n ty j v : Nat} {g : Nat → Option Nat} (h : pm_h S a (.inl (ty, n, .inr (.inr (.inr (.inr g)))))) (hty : 2 ≤ ty ∧ ty < 5) (hi : i = nI j) (hj : j < n) (hn : n < 2 ^ 31) (hv : g j = some v) (k : pm_E X M cf ret code b is (L, .ref v :: st, S) t) : pm_E X M cf ret code b (.aaload :: is) (L, .int i :: .ref a :: st, S) t := by
  subst hi
  refine pe_aald h hty (vp_in_nI hj hn) (v := .ref v) ?_ k
  rw [nI_clamp (Nat.lt_trans hj hn), hv]
  rfl
end
/-- a member's object at cell A, by its numbers (0 which 1 kind 2 voices 3 number 4 end 5 chance) -/
def mbr (f : Nat → Int32) (A : Nat) : List Value := [.int (f 0), .int (f 1), .int (f 2), .int (f 3), .int (f 4), .int (f 5), .ref (A + 1), .ref (A + 2)]
def MB (S : pm_S) (A : Nat) (f w u : Nat → Int32) : Prop := pm_h S A (.inr (3, mbr f A)) ∧ pm_h S (A + 1) (.inl (0, 7, .inl w)) ∧ pm_h S (A + 2) (.inl (0, 7, .inl u))
def hob (z : Nat → Int32) : List Value := [.int (z 0), .int (z 1), .int (z 2), .ref 75, .ref 76, .ref 77, .ref 78, .ref 79, .ref 80, .ref 81, .ref 82, .ref 83]
def hsz (k : Nat) : Nat := [64, 64, 64, 64, 64, 384, 3, 64].getD k 0
/-- the hall: its numbers z (0 size 1 chair 2 steps), its arrays b (0 names 1 comes 2 won 3 leads 4 standing 5 seen 6 lines 7 wonBefore), its seats f w u -/
def HR (S : pm_S) (z : Nat → Int32) (b : Nat → Nat → Int32) (f w u : Nat → Nat → Int32) : Prop := pm_h S 74 (.inr (1, hob z)) ∧ (∃ g : Nat → Option Nat, pm_h S 75 (.inl (2, 9, .inr (.inr (.inr (.inr g))))) ∧ ∀ m, m < 9 → g m = some (84 + 3 * m)) ∧ (∀ k, k < 8 → pm_h S (76 + k) (.inl (0, hsz k, .inl (b k)))) ∧ ∀ m, m < 9 → MB S (84 + 3 * m) (f m) (w m) (u m)
def h_mar (f w : Nat → Nat → Int32) (N x y : Nat) : Int32 := mgn w (fun m => f m 2) x y N
abbrev h_bts (z : Nat → Int32) (f w : Nat → Nat → Int32) (N x y : Nat) : Prop := sbt (h_mar f w N x y) (z 1) x y
def h_std (z : Nat → Int32) (f w : Nat → Nat → Int32) (N x y : Nat) : Nat := if h_bts z f w N y x then y else x
theorem mul_sgn (v p q : Int32) : v * sgn p q = (if p < q then v else if q < p then -v else 0) := by
  unfold sgn
  split
  · exact Int32.mul_one v
  · split
    · rw [Int32.mul_neg, Int32.mul_one]
    · exact Int32.mul_zero
theorem mgn_anti (w : Nat → Nat → Int32) (v : Nat → Int32) (x y : Nat) : ∀ n, mgn w v y x n = - mgn w v x y n := by
  intro n
  induction n with
  | zero => show (0 : Int32) = -0; decide
  | succ n ih =>
    unfold mgn
    rw [ih, Int32.neg_add]
    have : (if w n y < w n x then v n else if w n x < w n y then -(v n) else 0) = -(if w n x < w n y then v n else if w n y < w n x then -(v n) else 0) := by
      by_cases h1 : w n y < w n x
      · have h2 : ¬ w n x < w n y := Int32.not_lt.mpr (Int32.le_of_lt h1)
        rw [if_pos h1, if_neg h2, if_pos h1, Int32.neg_neg]
      · by_cases h2 : w n x < w n y
        · rw [if_neg h1, if_pos h2, if_pos h2]
        · rw [if_neg h1, if_neg h2, if_neg h2, if_neg h1]; rfl
    rw [this]
    exact (Int32.sub_eq_add_neg _ _).symm
theorem ms_Member_leaning : pm_Ms[48]? = some md_Member_leaning := rfl
theorem ms_Member_ofParty : pm_Ms[47]? = some md_Member_ofParty := rfl
theorem ms_Member_weight : pm_Ms[44]? = some md_Member_weight := rfl
theorem ms_Hall_margin : pm_Ms[21]? = some md_Hall_margin := rfl
theorem ms_Hall_chairsOf : pm_Ms[19]? = some md_Hall_chairsOf := rfl
theorem ms_Hall_better : pm_Ms[20]? = some md_Hall_better := rfl
theorem ms_Hall_beats : pm_Ms[22]? = some md_Hall_beats := rfl
section
variable {X : pm_X} {PR : pm_P} {S : pm_S} {z : Nat → Int32} {b f w u : Nat → Nat → Int32} {N : Nat}
theorem r_Member_leaning (hP : pm_np PR) {d : Nat} (hd : 1 ≤ d) {A : Nat} {f w u : Nat → Int32} (hM : MB S A f w u) {x y : Nat} (hx : x < 7) (hy : y < 7) : pm_run X pm_Ms PR d 48 [.ref A, .int (nI x), .int (nI y)] S = some (some (.int (sgn (w x) (w y))), S) := by
  refine pm_run_of (L := [_, _, _]) (by omega) (hP _ rfl) ms_Member_leaning rfl ?_
  show pm_to _ _ _ (some .int) cd_Member_leaning 0 _ _
  unfold sgn
  refine pm_to.blk rfl ?_
  refine pe_aload rfl ?_
  refine pe_getf hM.1 rfl rfl ?_
  refine pe_iload rfl ?_
  refine pe_ialdN hM.2.1 rfl hx (by decide) ?_
  refine pe_aload rfl ?_
  refine pe_getf hM.1 rfl rfl ?_
  refine pe_iload rfl ?_
  refine pe_ialdN hM.2.1 rfl hy (by decide) ?_
  refine pe_icmp_ne (tgt := 2) (nx := 1) rfl rfl (fun hc0 => ?_) (fun hc0 => ?_)
  · refine pm_to.blk rfl ?_
    refine pe_aload rfl ?_
    refine pe_getf hM.1 rfl rfl ?_
    refine pe_iload rfl ?_
    refine pe_ialdN hM.2.1 rfl hx (by decide) ?_
    refine pe_aload rfl ?_
    refine pe_getf hM.1 rfl rfl ?_
    refine pe_iload rfl ?_
    refine pe_ialdN hM.2.1 rfl hy (by decide) ?_
    refine pe_icmp_ge (tgt := 4) (nx := 3) rfl rfl (fun hc2 => ?_) (fun hc2 => ?_)
    · have h2 : w y < w x := Int32.lt_of_le_of_ne hc2 (fun h => hc0 h.symm)
      rw [if_neg (Int32.not_lt.mpr hc2), if_pos h2]
      refine pm_to.blk rfl ?_
      refine pe_iconst (v := (-1)) rfl ?_
      refine pe_nil (nx := 5) rfl ?_
      refine pm_to.blk rfl ?_
      exact pe_iret rfl rfl
    · rw [if_pos (Int32.not_le.mp hc2)]
      refine pm_to.blk rfl ?_
      refine pe_iconst (v := 1) rfl ?_
      refine pe_goto (tgt := 5) rfl ?_
      refine pm_to.blk rfl ?_
      exact pe_iret rfl rfl
  · have e := Decidable.not_not.mp hc0
    rw [if_neg (by rw [e]; exact fun h => Int32.lt_irrefl h), if_neg (by rw [e]; exact fun h => Int32.lt_irrefl h)]
    refine pm_to.blk rfl ?_
    refine pe_iconst (v := 0) rfl ?_
    exact pe_iret rfl rfl
theorem r_Member_ofParty (hP : pm_np PR) {d : Nat} (hd : 1 ≤ d) {A : Nat} {f w u : Nat → Int32} (hM : MB S A f w u) : pm_run X pm_Ms PR d 47 [.ref A] S = some (some (.int (bI (f 1 = 3 ∨ f 1 = 4))), S) := by
  refine pm_run_of (L := [_]) (by omega) (hP _ rfl) ms_Member_ofParty rfl ?_
  show pm_to _ _ _ (some .boolean) cd_Member_ofParty 0 _ _
  refine pm_to.blk rfl ?_
  refine pe_aload rfl ?_
  refine pe_getf hM.1 rfl rfl ?_
  refine pe_iconst (v := 3) rfl ?_
  refine pe_icmp_eq (tgt := 2) (nx := 1) rfl rfl (fun hc0 => ?_) (fun hc0 => ?_)
  · rw [bI_t (Or.inl hc0)]
    refine pm_to.blk rfl ?_
    refine pe_iconst (v := 1) rfl ?_
    refine pe_goto (tgt := 4) rfl ?_
    refine pm_to.blk rfl ?_
    exact pe_iret rfl rfl
  · refine pm_to.blk rfl ?_
    refine pe_aload rfl ?_
    refine pe_getf hM.1 rfl rfl ?_
    refine pe_iconst (v := 4) rfl ?_
    refine pe_icmp_ne (tgt := 3) (nx := 2) rfl rfl (fun hc1 => ?_) (fun hc1 => ?_)
    · rw [bI_f (fun h => h.elim hc0 hc1)]
      refine pm_to.blk rfl ?_
      refine pe_iconst (v := 0) rfl ?_
      refine pe_nil (nx := 4) rfl ?_
      refine pm_to.blk rfl ?_
      exact pe_iret rfl rfl
    · rw [bI_t (Or.inr (Decidable.not_not.mp hc1))]
      refine pm_to.blk rfl ?_
      refine pe_iconst (v := 1) rfl ?_
      refine pe_goto (tgt := 4) rfl ?_
      refine pm_to.blk rfl ?_
      exact pe_iret rfl rfl
theorem r_Hall_margin (hP : pm_np PR) {d : Nat} (hd : 2 ≤ d) (hH : HR S z b f w u) (hz : z 0 = nI N) (hN : N ≤ 9) {x y : Nat} (hx : x < 7) (hy : y < 7) : pm_run X pm_Ms PR d 21 [.ref 74, .int (nI x), .int (nI y)] S = some (some (.int (h_mar f w N x y)), S) := by
  obtain ⟨h1, ⟨g, h2, h3⟩, h4, h5⟩ := hH
  refine pm_run_of (L := [_, _, _, _, _]) (by omega) (hP _ rfl) ms_Hall_margin rfl ?_
  show pm_to _ _ _ (some .int) cd_Hall_margin 0 _ _
  unfold h_mar
  have loop : ∀ (k m : Nat), m + k = N → pm_to X pm_Ms (pm_run X pm_Ms PR (d - 1)) (some .int) cd_Hall_margin 1 ([some (.ref 74), some (.int (nI x)), some (.int (nI y)), some (.int (mgn w (fun m => f m 2) x y m)), some (.int (nI m))], [], S) (some (.int (mgn w (fun m => f m 2) x y N)), S) := by
    intro k
    induction k with
    | zero =>
      intro m hm
      have e : m = N := by omega
      subst e
      refine pm_to.blk rfl ?_
      refine pe_iload rfl ?_
      refine pe_aload rfl ?_
      refine pe_getf h1 rfl rfl ?_
      refine pe_icmp_ge (tgt := 3) (nx := 2) rfl rfl (fun hc1 => ?_) (fun hc1 => ?_)
      · refine pm_to.blk rfl ?_
        refine pe_iload rfl ?_
        exact pe_iret rfl rfl
      · exact absurd (by rw [hz]; exact nI_le (Nat.le_refl _) (by omega)) hc1
    | succ k ih =>
      intro m hm
      have hm9 : m < 9 := by omega
      refine pm_to.blk rfl ?_
      refine pe_iload rfl ?_
      refine pe_aload rfl ?_
      refine pe_getf h1 rfl rfl ?_
      refine pe_icmp_ge (tgt := 3) (nx := 2) rfl rfl (fun hc1 => ?_) (fun hc1 => ?_)
      · rw [hz] at hc1
        exact absurd hc1 (nI_ge (by omega) (by omega))
      · refine pm_to.blk rfl ?_
        refine pe_iload rfl ?_
        refine pe_aload rfl ?_
        refine pe_getf h1 rfl rfl ?_
        refine pe_iload rfl ?_
        refine pe_aaldN h2 (by decide) rfl hm9 (by decide) (h3 m hm9) ?_
        refine pe_getf (h5 m hm9).1 rfl rfl ?_
        refine pe_aload rfl ?_
        refine pe_getf h1 rfl rfl ?_
        refine pe_iload rfl ?_
        refine pe_aaldN h2 (by decide) rfl hm9 (by decide) (h3 m hm9) ?_
        refine pe_iload rfl ?_
        refine pe_iload rfl ?_
        refine pe_virt rfl rfl ((h5 m hm9).1 ) rfl ( r_Member_leaning hP (by omega) (h5 m hm9) hx hy) ?_
        refine pe_imul ?_
        refine pe_iadd ?_
        refine pe_istore (L' := [_, _, _, _, _]) rfl ?_
        refine pe_iinc (L' := [_, _, _, _, _]) rfl ((nI_succ m).symm) rfl ?_
        refine pe_goto (tgt := 1) rfl ?_
        rw [mul_sgn]
        exact ih (m + 1) (by omega)
  refine pm_to.blk rfl ?_
  refine pe_iconst (v := 0) rfl ?_
  refine pe_istore (L' := [_, _, _, _, _]) rfl ?_
  refine pe_iconst (v := 0) rfl ?_
  refine pe_istore (L' := [_, _, _, _, _]) rfl ?_
  refine pe_nil (nx := 1) rfl ?_
  exact loop N 0 (by omega)
theorem r_Hall_chairsOf (hP : pm_np PR) {d : Nat} (hd : 1 ≤ d) (hH : HR S z b f w u) {x y : Nat} (hx : x < 7) (hy : y < 7) : pm_run X pm_Ms PR d 19 [.ref 74, .int (nI x), .int (nI y)] S = some (some (.int (nI (if z 1 = 0 then min x y else max x y))), S) := by
  refine pm_run_of (L := [_, _, _]) (by omega) (hP _ rfl) ms_Hall_chairsOf rfl ?_
  show pm_to _ _ _ (some .int) cd_Hall_chairsOf 0 _ _
  refine pm_to.blk rfl ?_
  refine pe_aload rfl ?_
  refine pe_getf hH.1 rfl rfl ?_
  refine pe_if_ne (tgt := 2) (nx := 1) rfl rfl (fun hc0 => ?_) (fun hc0 => ?_)
  · rw [if_neg hc0]
    refine pm_to.blk rfl ?_
    refine pe_iload rfl ?_
    refine pe_iload rfl ?_
    refine pe_max (by decide) ?_
    refine pe_nil (nx := 3) rfl ?_
    have e : (if nI x < nI y then nI y else nI x) = nI (max x y) := by
      by_cases h : x < y
      · rw [if_pos (nI_lt h (by omega)), Nat.max_eq_right (by omega)]
      · rw [if_neg (nI_nlt (by omega) (by omega)), Nat.max_eq_left (by omega)]
    rw [e]
    refine pm_to.blk rfl ?_
    exact pe_iret rfl rfl
  · rw [if_pos (Decidable.not_not.mp hc0)]
    refine pm_to.blk rfl ?_
    refine pe_iload rfl ?_
    refine pe_iload rfl ?_
    refine pe_min (by decide) ?_
    refine pe_goto (tgt := 3) rfl ?_
    have e : (if nI y < nI x then nI y else nI x) = nI (min x y) := by
      by_cases h : y < x
      · rw [if_pos (nI_lt h (by omega)), Nat.min_eq_right (by omega)]
      · rw [if_neg (nI_nlt (by omega) (by omega)), Nat.min_eq_left (by omega)]
    rw [e]
    refine pm_to.blk rfl ?_
    exact pe_iret rfl rfl
theorem h_std_lt {x y : Nat} (hx : x < 7) (hy : y < 7) : h_std z f w N x y < 7 := by
  unfold h_std
  split <;> omega
theorem add_toInt {a b : Int32} (h1 : -1000000 ≤ a.toInt + b.toInt) (h2 : a.toInt + b.toInt ≤ 1000000) : (a + b).toInt = a.toInt + b.toInt := by
  rw [Int32.toInt_add]
  exact Int.bmod_eq_of_le (by omega) (by omega)
theorem mgn_bd {w : Nat → Nat → Int32} {v : Nat → Int32} {x y : Nat} : ∀ n, n ≤ 9 → (∀ m, m < n → ∃ k, k ≤ 9 ∧ v m = nI k) → -(9 * n : Int) ≤ (mgn w v x y n).toInt ∧ (mgn w v x y n).toInt ≤ 9 * n := by
  intro n
  induction n with
  | zero => intro _ _; exact ⟨by show _ ≤ (0 : Int32).toInt; decide, by show (0 : Int32).toInt ≤ _; decide⟩
  | succ n ih =>
    intro hn hv
    obtain ⟨i1, i2⟩ := ih (by omega) (fun m hm => hv m (by omega))
    obtain ⟨k, hk, ek⟩ := hv n (by omega)
    have hb : -(9 : Int) ≤ (if w n x < w n y then v n else if w n y < w n x then -(v n) else 0).toInt ∧ (if w n x < w n y then v n else if w n y < w n x then -(v n) else 0).toInt ≤ 9 := by
      rw [ek]
      have e1 : (nI k).toInt = k := nI_toInt (by omega)
      have e2 : (-nI k).toInt = -(k : Int) := sb_negT (by omega)
      split
      · rw [e1]; omega
      · split
        · rw [e2]; omega
        · decide
    unfold mgn
    rw [add_toInt (by omega) (by omega)]
    omega
theorem neg_pos {a : Int32} (h1 : -1000000 ≤ a.toInt) : 0 < -a ↔ a < 0 := by
  have h2 : a.toInt < 2 ^ 31 := Int32.toInt_lt a
  have e : (-a).toInt = -a.toInt := by
    rw [Int32.toInt_neg]
    exact Int.bmod_eq_of_le (by omega) (by omega)
  rw [Int32.lt_iff_toInt_lt, Int32.lt_iff_toInt_lt, e]
  show (0 : Int) < _ ↔ _ < (0 : Int)
  omega
theorem neg_zero {a : Int32} : -a = 0 ↔ a = 0 := by
  constructor
  · intro h
    have : - -a = -0 := by rw [h]
    rw [Int32.neg_neg] at this
    rw [this]; rfl
  · intro h; rw [h]; rfl
theorem r_Hall_better (hP : pm_np PR) {d : Nat} (hd : 3 ≤ d) (hH : HR S z b f w u) (hz : z 0 = nI N) (hN : N ≤ 9) (hv : ∀ m, m < N → ∃ k, k ≤ 9 ∧ f m 2 = nI k) {x y : Nat} (hx : x < 7) (hy : y < 7) : pm_run X pm_Ms PR d 20 [.ref 74, .int (nI x), .int (nI y)] S = some (some (.int (nI (h_std z f w N x y))), S) := by
  refine pm_run_of (L := [_, _, _, _]) (by omega) (hP _ rfl) ms_Hall_better rfl ?_
  show pm_to _ _ _ (some .int) cd_Hall_better 0 _ _
  have exy : nI x = nI y ↔ x = y := nI_eq (by omega) (by omega)
  obtain ⟨bd1, bd2⟩ := mgn_bd (w := w) (v := fun m => f m 2) (x := x) (y := y) N hN hv
  have anti : h_mar f w N y x = - h_mar f w N x y := mgn_anti _ _ _ _ _
  have bd3 : -1000000 ≤ (h_mar f w N x y).toInt := by unfold h_mar; omega
  unfold h_std
  refine pm_to.blk rfl ?_
  refine pe_iload rfl ?_
  refine pe_iload rfl ?_
  refine pe_icmp_ne (tgt := 2) (nx := 1) rfl rfl (fun hc0 => ?_) (fun hc0 => ?_)
  · have hne : ¬ x = y := fun h => hc0 (exy.mpr h)
    refine pm_to.blk rfl ?_
    refine pe_aload rfl ?_
    refine pe_iload rfl ?_
    refine pe_iload rfl ?_
    refine pe_virt rfl rfl (hH.1 ) rfl ( r_Hall_margin hP (by omega) hH hz hN hx hy) ?_
    refine pe_istore (L' := [_, _, _, _]) rfl ?_
    refine pe_iload rfl ?_
    refine pe_if_ne (tgt := 4) (nx := 3) rfl rfl (fun hc2 => ?_) (fun hc2 => ?_)
    · refine pm_to.blk rfl ?_
      refine pe_iload rfl ?_
      refine pe_if_le (tgt := 6) (nx := 5) rfl rfl (fun hc4 => ?_) (fun hc4 => ?_)
      · have hlt : h_mar f w N x y < 0 := Int32.lt_of_le_of_ne hc4 hc2
        rw [if_pos (show h_bts z f w N y x from ⟨fun h => hne h.symm, Or.inl (by rw [anti]; exact (neg_pos bd3).mpr hlt)⟩)]
        refine pm_to.blk rfl ?_
        refine pe_iload rfl ?_
        refine pe_nil (nx := 7) rfl ?_
        refine pm_to.blk rfl ?_
        exact pe_iret rfl rfl
      · have hgt : 0 < h_mar f w N x y := Int32.not_le.mp hc4
        have hnb : ¬ h_bts z f w N y x := fun h => h.2.elim (fun q => by rw [anti] at q; exact absurd ((neg_pos bd3).mp q) (Int32.not_lt.mpr (Int32.le_of_lt hgt))) (fun q => by rw [anti] at q; exact hc2 (neg_zero.mp q.1))
        rw [if_neg hnb]
        refine pm_to.blk rfl ?_
        refine pe_iload rfl ?_
        refine pe_goto (tgt := 7) rfl ?_
        refine pm_to.blk rfl ?_
        exact pe_iret rfl rfl
    · have h0 : h_mar f w N x y = 0 := Decidable.not_not.mp hc2
      have h0' : h_mar f w N y x = 0 := by rw [anti, h0]; rfl
      have e : (if h_bts z f w N y x then y else x) = (if z 1 = 0 then min x y else max x y) := by
        unfold h_bts
        rw [h0']
        by_cases hch : z 1 = 0
        · rw [if_pos hch]
          by_cases hl : y < x
          · rw [if_pos ⟨fun h => hne h.symm, Or.inr ⟨rfl, Or.inl ⟨hch, hl⟩⟩⟩, Nat.min_eq_right (by omega)]
          · rw [if_neg (fun h => h.2.elim (fun q => absurd q (by decide)) (fun q => q.2.elim (fun r => hl r.2) (fun r => r.1 hch))), Nat.min_eq_left (by omega)]
        · rw [if_neg hch]
          by_cases hl : x < y
          · rw [if_pos ⟨fun h => hne h.symm, Or.inr ⟨rfl, Or.inr ⟨hch, hl⟩⟩⟩, Nat.max_eq_right (by omega)]
          · rw [if_neg (fun h => h.2.elim (fun q => absurd q (by decide)) (fun q => q.2.elim (fun r => hch r.1) (fun r => hl r.2))), Nat.max_eq_left (by omega)]
      rw [e]
      refine pm_to.blk rfl ?_
      refine pe_aload rfl ?_
      refine pe_iload rfl ?_
      refine pe_iload rfl ?_
      refine pe_virt rfl rfl (hH.1 ) rfl ( r_Hall_chairsOf hP (by omega) hH hx hy) ?_
      refine pe_goto (tgt := 7) rfl ?_
      refine pm_to.blk rfl ?_
      exact pe_iret rfl rfl
  · have he : x = y := exy.mp (Decidable.not_not.mp hc0)
    rw [if_neg (fun h => h.1 he.symm)]
    refine pm_to.blk rfl ?_
    refine pe_iload rfl ?_
    exact pe_iret rfl rfl
theorem h_std_bts {x y : Nat} (hv : ∀ m, m < N → ∃ k, k ≤ 9 ∧ f m 2 = nI k) (hN : N ≤ 9) (hne : ¬ x = y) : h_std z f w N x y = x ↔ h_bts z f w N x y := by
  obtain ⟨bd1, bd2⟩ := mgn_bd (w := w) (v := fun m => f m 2) (x := x) (y := y) N hN hv
  have anti : h_mar f w N y x = - h_mar f w N x y := mgn_anti _ _ _ _ _
  have bd3 : -1000000 ≤ (h_mar f w N x y).toInt := by unfold h_mar; omega
  unfold h_std
  constructor
  · intro h
    have hn : ¬ h_bts z f w N y x := fun q => by rw [if_pos q] at h; exact hne h.symm
    refine ⟨hne, ?_⟩
    by_cases hp : 0 < h_mar f w N x y
    · exact Or.inl hp
    · by_cases h0 : h_mar f w N x y = 0
      · refine Or.inr ⟨h0, ?_⟩
        have h0' : h_mar f w N y x = 0 := by rw [anti, h0]; rfl
        by_cases hch : z 1 = 0
        · refine Or.inl ⟨hch, ?_⟩
          by_cases hl : y < x
          · exact absurd ⟨fun h => hne h.symm, Or.inr ⟨h0', Or.inl ⟨hch, hl⟩⟩⟩ hn
          · omega
        · refine Or.inr ⟨hch, ?_⟩
          by_cases hl : x < y
          · exact absurd ⟨fun h => hne h.symm, Or.inr ⟨h0', Or.inr ⟨hch, hl⟩⟩⟩ hn
          · omega
      · exact absurd ⟨fun h => hne h.symm, Or.inl (by rw [anti]; exact (neg_pos bd3).mpr (Int32.lt_of_le_of_ne (Int32.not_lt.mp hp) h0))⟩ hn
  · intro h
    rw [if_neg]
    intro q
    rcases h.2 with h2 | ⟨h2, h3⟩
    · rcases q.2 with q2 | ⟨q2, q3⟩
      · rw [anti] at q2
        exact absurd ((neg_pos bd3).mp q2) (Int32.not_lt.mpr (Int32.le_of_lt h2))
      · rw [anti] at q2
        rw [neg_zero.mp q2] at h2
        exact absurd h2 (by decide)
    · rcases q.2 with q2 | ⟨q2, q3⟩
      · rw [anti, h2] at q2
        exact absurd q2 (by decide)
      · rcases h3 with ⟨h4, h5⟩ | ⟨h4, h5⟩ <;> rcases q3 with ⟨q4, q5⟩ | ⟨q4, q5⟩
        · omega
        · exact q4 h4
        · exact h4 q4
        · omega
theorem r_Hall_beats (hP : pm_np PR) {d : Nat} (hd : 4 ≤ d) (hH : HR S z b f w u) (hz : z 0 = nI N) (hN : N ≤ 9) (hv : ∀ m, m < N → ∃ k, k ≤ 9 ∧ f m 2 = nI k) {x y : Nat} (hx : x < 7) (hy : y < 7) : pm_run X pm_Ms PR d 22 [.ref 74, .int (nI x), .int (nI y)] S = some (some (.int (bI (h_bts z f w N x y))), S) := by
  refine pm_run_of (L := [_, _, _]) (by omega) (hP _ rfl) ms_Hall_beats rfl ?_
  show pm_to _ _ _ (some .boolean) cd_Hall_beats 0 _ _
  have exy : nI x = nI y ↔ x = y := nI_eq (by omega) (by omega)
  refine pm_to.blk rfl ?_
  refine pe_iload rfl ?_
  refine pe_iload rfl ?_
  refine pe_icmp_eq (tgt := 3) (nx := 1) rfl rfl (fun hc0 => ?_) (fun hc0 => ?_)
  · rw [bI_f (fun h => h.1 (exy.mp hc0))]
    refine pm_to.blk rfl ?_
    refine pe_iconst (v := 0) rfl ?_
    refine pe_nil (nx := 4) rfl ?_
    refine pm_to.blk rfl ?_
    exact pe_iret rfl rfl
  · have hne : ¬ x = y := fun h => hc0 (exy.mpr h)
    have ex2 : nI (h_std z f w N x y) = nI x ↔ h_std z f w N x y = x := nI_eq (by have := h_std_lt (z := z) (f := f) (w := w) (N := N) hx hy; omega) (by omega)
    refine pm_to.blk rfl ?_
    refine pe_aload rfl ?_
    refine pe_iload rfl ?_
    refine pe_iload rfl ?_
    refine pe_virt rfl rfl (hH.1 ) rfl ( r_Hall_better hP (by omega) hH hz hN hv hx hy) ?_
    refine pe_iload rfl ?_
    refine pe_icmp_ne (tgt := 3) (nx := 2) rfl rfl (fun hc1 => ?_) (fun hc1 => ?_)
    · rw [bI_f (fun h => hc1 (ex2.mpr ((h_std_bts hv hN hne).mpr h)))]
      refine pm_to.blk rfl ?_
      refine pe_iconst (v := 0) rfl ?_
      refine pe_nil (nx := 4) rfl ?_
      refine pm_to.blk rfl ?_
      exact pe_iret rfl rfl
    · rw [bI_t ((h_std_bts hv hN hne).mp (ex2.mp (Decidable.not_not.mp hc1)))]
      refine pm_to.blk rfl ?_
      refine pe_iconst (v := 1) rfl ?_
      refine pe_goto (tgt := 4) rfl ?_
      refine pm_to.blk rfl ?_
      exact pe_iret rfl rfl
end
