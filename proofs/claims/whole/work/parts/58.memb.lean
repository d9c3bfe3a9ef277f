/-! the class: members, shelves, what a chamber holds at a place -/
theorem in_nI {v : Int32} {n : Nat} (hn : n < 2 ^ 31) : (0 ≤ v ∧ v ≤ nI n) ↔ ∃ j, j ≤ n ∧ v = nI j := by
  constructor
  · rintro ⟨h1, h2⟩
    obtain ⟨j, h3, h4⟩ := nI_of2 (M := nI n) (nI_toInt hn) (Int32.not_lt.mpr h1) h2
    exact ⟨j, h3, h4⟩
  · rintro ⟨j, h1, rfl⟩
    exact ⟨nI_pos' (by omega), nI_le h1 hn⟩
theorem in_nI1 {v : Int32} {n : Nat} (hn : n < 2 ^ 31) : (0 ≤ v ∧ v ≤ nI n - 1) ↔ ∃ j, j < n ∧ v = nI j := by
  cases n with
  | zero =>
    constructor
    · rintro ⟨h1, h2⟩
      have : (nI 0 - 1 : Int32) = -1 := by decide
      rw [this] at h2
      exact absurd (Int32.le_trans h1 h2) (by decide)
    · rintro ⟨j, h1, -⟩; omega
  | succ n =>
    rw [nI_pred, in_nI (by omega)]
    constructor
    · rintro ⟨j, h1, h2⟩; exact ⟨j, by omega, h2⟩
    · rintro ⟨j, h1, h2⟩; exact ⟨j, by omega, h2⟩
theorem in_c {v : Int32} (n : Nat) (hn : n < 2 ^ 31) {c : Int32} (hc : c = nI n) : (0 ≤ v ∧ v ≤ c) ↔ ∃ j, j ≤ n ∧ v = nI j := by subst hc; exact in_nI hn
def heftN (k v n : Nat) : Nat := if k = 0 then v else if k = 1 then v + 1 else if k = 2 then v + 1 + n else if k = 3 then 2 * v else if k = 4 then 2 * v - 1 else v / 2
def refU (h w : Nat) : Int32 := if h = 0 then -11 else if h = w then 0 else -12
def refB (h so : Nat) : Int32 := if h = 2 ∧ ¬ so = 0 then -12 else refU h 2
theorem tab2 {x : Int32} {d a b : Int} : (Op.lookupswitch.offset [(0, a), (1, b)] d x.toInt) = (if x = 0 then a else if x = 1 then b else d) := by
  have key : ∀ (z : Int32), x.toInt = z.toInt ↔ x = z := fun z => Int32.toInt_inj
  by_cases h0 : x = 0
  · subst h0; rfl
  by_cases h1 : x = 1
  · subst h1; rfl
  have e0 : ¬ x.toInt = 0 := fun h => h0 ((key 0).mp h)
  have e1 : ¬ x.toInt = 1 := fun h => h1 ((key 1).mp h)
  rw [if_neg h0, if_neg h1]
  simp [Op.lookupswitch.offset, e0, e1]
  try omega
section
variable {X : pm_X} {PR : pm_P} {s : QST} {Q : QPost}
theorem r_memberAt_y (hP : pm_np PR) {d : Nat} (hd : 2 ≤ d) {m M : Nat} (hM : qF s 9 2 = nI M) (hM9 : M ≤ 9) (hm : m < M) : pm_run X pm_Ms PR d 5 [.ref 9, .int (nI m)] (qhp s) = some (some (.ref (12 + 3 * m)), qhp s) := by
  refine qP.run ?_
  refine qP.of (L := [_, _]) (by omega) (hP _ rfl) ms_Chamber_memberAt rfl ?_
  show qW X PR (d - 1) (some (.object "QuestionDesk$Member")) cd_Chamber_memberAt 0 _ _ _ _
  refine qW.blk rfl ?_
  refine qv_iload rfl ?_
  refine qv_iconst (v := 0) rfl ?_
  refine qv_aload rfl ?_
  refine qv_gi ly_9 ⟨rfl, rfl, rfl⟩ (hM) ?_
  refine qv_iconst (v := 1) rfl ?_
  refine qv_isub ?_
  refine qv_staticE sg_Desk_within rfl (r_Desk_within hP (by omega) (nI m) 0 (nI M - 1) _) ?_
  refine qv_if_eq_f (bI_ne.mpr ((in_nI1 (by omega)).mpr ⟨m, hm, rfl⟩)) (nx := 1) rfl ?_
  refine qW.blk rfl ?_
  refine qv_aload rfl ?_
  refine qv_gr ly_9 ⟨rfl, rfl, rfl⟩ (by omega) ?_
  refine qv_iload rfl ?_
  refine qv_aa (j := m) (r := 12 + 3 * m) ly_10 rfl (show _ < 9 by omega) (by decide) rfl ?_
  refine qv_goto (tgt := 3) rfl ?_
  refine qW.blk rfl ?_
  refine qv_aret ⟨rfl, rfl⟩ ?_
  exact ⟨rfl, rfl⟩
theorem r_memberAt_n (hP : pm_np PR) {d : Nat} (hd : 2 ≤ d) {M : Nat} {v : Int32} (hM : qF s 9 2 = nI M) (hM9 : M ≤ 9) (hm : ¬ ∃ m, m < M ∧ v = nI m) : pm_run X pm_Ms PR d 5 [.ref 9, .int v] (qhp s) = some (some .null, qhp s) := by
  refine qP.run ?_
  refine qP.of (L := [_, _]) (by omega) (hP _ rfl) ms_Chamber_memberAt rfl ?_
  show qW X PR (d - 1) (some (.object "QuestionDesk$Member")) cd_Chamber_memberAt 0 _ _ _ _
  refine qW.blk rfl ?_
  refine qv_iload rfl ?_
  refine qv_iconst (v := 0) rfl ?_
  refine qv_aload rfl ?_
  refine qv_gi ly_9 ⟨rfl, rfl, rfl⟩ (hM) ?_
  refine qv_iconst (v := 1) rfl ?_
  refine qv_isub ?_
  refine qv_staticE sg_Desk_within rfl (r_Desk_within hP (by omega) v 0 (nI M - 1) _) ?_
  refine qv_if_eq_t (bI_f (fun h => hm ((in_nI1 (by omega)).mp h))) (tgt := 2) rfl ?_
  refine qW.blk rfl ?_
  refine qv_null ?_
  refine qv_nil (nx := 3) rfl ?_
  refine qW.blk rfl ?_
  refine qv_aret ⟨rfl, rfl⟩ ?_
  exact ⟨rfl, rfl⟩
theorem r_treeAt_y (hP : pm_np PR) {d : Nat} (hd : 2 ≤ d) {m M T : Nat} (hM : qF s 9 3 = nI M) (hM9 : M ≤ 12) (hm : m < M) (hT : qT s 11 m = some T) : pm_run X pm_Ms PR d 6 [.ref 9, .int (nI m)] (qhp s) = some (some (.ref T), qhp s) := by
  refine qP.run ?_
  refine qP.of (L := [_, _]) (by omega) (hP _ rfl) ms_Chamber_treeAt rfl ?_
  show qW X PR (d - 1) (some (.object "QuestionDesk$Tree")) cd_Chamber_treeAt 0 _ _ _ _
  refine qW.blk rfl ?_
  refine qv_iload rfl ?_
  refine qv_iconst (v := 0) rfl ?_
  refine qv_aload rfl ?_
  refine qv_gi ly_9 ⟨rfl, rfl, rfl⟩ (hM) ?_
  refine qv_iconst (v := 1) rfl ?_
  refine qv_isub ?_
  refine qv_staticE sg_Desk_within rfl (r_Desk_within hP (by omega) (nI m) 0 (nI M - 1) _) ?_
  refine qv_if_eq_f (bI_ne.mpr ((in_nI1 (by omega)).mpr ⟨m, hm, rfl⟩)) (nx := 1) rfl ?_
  refine qW.blk rfl ?_
  refine qv_aload rfl ?_
  refine qv_gr ly_9 ⟨rfl, rfl, rfl⟩ (by omega) ?_
  refine qv_iload rfl ?_
  refine qv_ad ly_11 rfl (by omega) (by decide) (hT) ?_
  refine qv_goto (tgt := 3) rfl ?_
  refine qW.blk rfl ?_
  refine qv_aret ⟨rfl, rfl⟩ ?_
  exact ⟨rfl, rfl⟩
theorem r_treeAt_n (hP : pm_np PR) {d : Nat} (hd : 2 ≤ d) {M : Nat} {v : Int32} (hM : qF s 9 3 = nI M) (hM9 : M ≤ 12) (hm : ¬ ∃ m, m < M ∧ v = nI m) : pm_run X pm_Ms PR d 6 [.ref 9, .int v] (qhp s) = some (some .null, qhp s) := by
  refine qP.run ?_
  refine qP.of (L := [_, _]) (by omega) (hP _ rfl) ms_Chamber_treeAt rfl ?_
  show qW X PR (d - 1) (some (.object "QuestionDesk$Tree")) cd_Chamber_treeAt 0 _ _ _ _
  refine qW.blk rfl ?_
  refine qv_iload rfl ?_
  refine qv_iconst (v := 0) rfl ?_
  refine qv_aload rfl ?_
  refine qv_gi ly_9 ⟨rfl, rfl, rfl⟩ (hM) ?_
  refine qv_iconst (v := 1) rfl ?_
  refine qv_isub ?_
  refine qv_staticE sg_Desk_within rfl (r_Desk_within hP (by omega) v 0 (nI M - 1) _) ?_
  refine qv_if_eq_t (bI_f (fun h => hm ((in_nI1 (by omega)).mp h))) (tgt := 2) rfl ?_
  refine qW.blk rfl ?_
  refine qv_null ?_
  refine qv_nil (nx := 3) rfl ?_
  refine qW.blk rfl ?_
  refine qv_aret ⟨rfl, rfl⟩ ?_
  exact ⟨rfl, rfl⟩
theorem r_shelfAt_y (hP : pm_np PR) {d : Nat} (hd : 2 ≤ d) {k : Nat} (hk8 : k < 8) : pm_run X pm_Ms PR d 120 [.ref 8, .int (nI k)] (qhp s) = some (some (.ref (123 + 5 * k)), qhp s) := by
  refine qP.run ?_
  refine qP.of (L := [_, _]) (by omega) (hP _ rfl) ms_Desk_shelfAt rfl ?_
  show qW X PR (d - 1) (some (.object "QuestionDesk$Shelf")) cd_Desk_shelfAt 0 _ _ _ _
  refine qW.blk rfl ?_
  refine qv_iload rfl ?_
  refine qv_iconst (v := 0) rfl ?_
  refine qv_iconst (v := 7) rfl ?_
  refine qv_staticE sg_Desk_within rfl (r_Desk_within hP (by omega) (nI k) 0 (nI 7) _) ?_
  refine qv_if_eq_f (bI_ne.mpr ((in_nI (n := 7) (by omega)).mpr ⟨k, by omega, rfl⟩)) (nx := 1) rfl ?_
  refine qW.blk rfl ?_
  refine qv_aload rfl ?_
  refine qv_gr ly_8 ⟨rfl, rfl, rfl⟩ (by omega) ?_
  refine qv_iload rfl ?_
  refine qv_aa (j := k) (r := 123 + 5 * k) ly_69 rfl (show _ < 8 by omega) (by decide) rfl ?_
  refine qv_goto (tgt := 3) rfl ?_
  refine qW.blk rfl ?_
  refine qv_aret ⟨rfl, rfl⟩ ?_
  exact ⟨rfl, rfl⟩
theorem r_shelfAt_n (hP : pm_np PR) {d : Nat} (hd : 2 ≤ d) {v : Int32} (hn : ¬ ∃ m, m < 8 ∧ v = nI m) : pm_run X pm_Ms PR d 120 [.ref 8, .int v] (qhp s) = some (some .null, qhp s) := by
  refine qP.run ?_
  refine qP.of (L := [_, _]) (by omega) (hP _ rfl) ms_Desk_shelfAt rfl ?_
  show qW X PR (d - 1) (some (.object "QuestionDesk$Shelf")) cd_Desk_shelfAt 0 _ _ _ _
  refine qW.blk rfl ?_
  refine qv_iload rfl ?_
  refine qv_iconst (v := 0) rfl ?_
  refine qv_iconst (v := 7) rfl ?_
  refine qv_staticE sg_Desk_within rfl (r_Desk_within hP (by omega) v 0 (nI 7) _) ?_
  refine qv_if_eq_t (bI_f (fun h => hn (let ⟨j, h1, h2⟩ := (in_nI (n := 7) (by omega)).mp h; ⟨j, by omega, h2⟩))) (tgt := 2) rfl ?_
  refine qW.blk rfl ?_
  refine qv_null ?_
  refine qv_nil (nx := 3) rfl ?_
  refine qW.blk rfl ?_
  refine qv_aret ⟨rfl, rfl⟩ ?_
  exact ⟨rfl, rfl⟩
theorem r_Desk_isThere (hP : pm_np PR) {d : Nat} (hd : 2 ≤ d) (v : Int32) {E : Nat} (hE : qF s 9 0 = nI E) : pm_run X pm_Ms PR d 137 [.ref 8, .int v] (qhp s) = some (some (.int (bI (0 ≤ v ∧ v ≤ nI E - 1))), qhp s) := by
  refine qP.run ?_
  refine qP.of (L := [_, _]) (by omega) (hP _ rfl) ms_Desk_isThere rfl ?_
  show qW X PR (d - 1) (some .boolean) cd_Desk_isThere 0 _ _ _ _
  refine qW.blk rfl ?_
  refine qv_iload rfl ?_
  refine qv_iconst (v := 0) rfl ?_
  refine qv_aload rfl ?_
  refine qv_gr ly_8 ⟨rfl, rfl, rfl⟩ (by omega) ?_
  refine qv_gi ly_9 ⟨rfl, rfl, rfl⟩ (hE) ?_
  refine qv_iconst (v := 1) rfl ?_
  refine qv_isub ?_
  refine qv_staticE sg_Desk_within rfl (r_Desk_within hP (by omega) v 0 (nI E - 1) _) ?_
  refine qv_iret (by first | exact bI_ret | rfl) ?_
  exact ⟨rfl, rfl⟩
theorem mostN_tb : ∀ k, k ≤ 5 → pm_tbf [0, 0, 5, 2, 2, 0] k = nI (mostN k) := by decide
theorem r_Desk_fits (hP : pm_np PR) (hX1 : X 1 = some (6, pm_tbf [0, 0, 5, 2, 2, 0])) {d : Nat} (hd : 2 ≤ d) (k v : Int32) {p : Prop} [hdec : Decidable p] (hp : p ↔ ∃ j, (j ≤ 5 ∧ k = nI j) ∧ ∃ n, n ≤ mostN j ∧ v = nI n) : pm_run X pm_Ms PR d 110 [.int k, .int v] (qhp s) = some (some (.int (bI p)), qhp s) := by
  refine qP.run ?_
  obtain ⟨Q, hQ'⟩ : ∃ Q : QPost, Q = (fun v s' => v = some (.int (bI p)) ∧ s' = s) := ⟨_, rfl⟩
  have hQ : Q (some (.int (bI p))) s := by rw [hQ']; exact ⟨rfl, rfl⟩
  rw [← hQ']
  refine qP.of (L := [_, _]) (by omega) (hP _ rfl) ms_Desk_fits rfl ?_
  show qW X PR (d - 1) (some .boolean) cd_Desk_fits 0 _ _ _ _
  by_cases h : ∃ j, j ≤ 5 ∧ k = nI j
  · obtain ⟨j, hj, rfl⟩ := h
    have e : p ↔ ∃ n, n ≤ mostN j ∧ v = nI n := by
      rw [hp]
      constructor
      · rintro ⟨j', ⟨h1, h2⟩, h3⟩
        have := (nI_eq (by omega) (by omega)).mp h2
        subst this
        exact h3
      · intro h3; exact ⟨j, ⟨hj, rfl⟩, h3⟩
    have hm : mostN j < 100 := by unfold mostN; split <;> (try split) <;> omega
    refine qW.blk rfl ?_
    refine qv_iload rfl ?_
    refine qv_iconst (v := 0) rfl ?_
    refine qv_iconst (v := 5) rfl ?_
    refine qv_staticE sg_Desk_within rfl (r_Desk_within hP (by omega) (nI j) 0 (nI 5) _) ?_
    refine qv_if_eq_f (bI_ne.mpr ((in_nI (n := 5) (by omega)).mpr ⟨j, hj, rfl⟩)) (nx := 1) rfl ?_
    have fr1 : qW X PR (d - 1) (some .boolean) cd_Desk_fits 1 [some (.int (nI j)), some (.int (v))] [] s Q := by
      refine qW.blk rfl ?_
      refine qv_iload rfl ?_
      refine qv_iconst (v := 0) rfl ?_
      refine qv_gets ?_
      refine qv_iload rfl ?_
      refine qv_ix hX1 (by decide) (rfl) (by omega) (by omega) (mostN_tb j hj) ?_
      refine qv_staticE sg_Desk_within rfl (r_Desk_within hP (by omega) v 0 (nI (mostN j)) _) ?_
      refine qv_if_eqB (tgt := 3) (nx := 2) rfl rfl (fun hc1 => ?_) (fun hc1 => ?_)
      · rw [bI_f (fun z => hc1 ((in_nI (by omega)).mpr (e.mp z)))] at hQ
        refine qW.blk rfl ?_
        refine qv_iconst (v := 0) rfl ?_
        refine qv_nil (nx := 4) rfl ?_
        refine qW.blk rfl ?_
        refine qv_iret (by first | exact bI_ret | rfl) ?_
        exact hQ
      · rw [bI_t (e.mpr ((in_nI (by omega)).mp hc1))] at hQ
        refine qW.blk rfl ?_
        refine qv_iconst (v := 1) rfl ?_
        refine qv_goto (tgt := 4) rfl ?_
        refine qW.blk rfl ?_
        refine qv_iret (by first | exact bI_ret | rfl) ?_
        exact hQ
    exact fr1
  · rw [bI_f (fun z => by obtain ⟨j, h1, _⟩ := hp.mp z; exact h ⟨j, h1⟩)] at hQ
    refine qW.blk rfl ?_
    refine qv_iload rfl ?_
    refine qv_iconst (v := 0) rfl ?_
    refine qv_iconst (v := 5) rfl ?_
    refine qv_staticE sg_Desk_within rfl (r_Desk_within hP (by omega) k 0 (nI 5) _) ?_
    refine qv_if_eq_t (bI_f (fun z => h ((in_nI (n := 5) (by omega)).mp z))) (tgt := 3) rfl ?_
    refine qW.blk rfl ?_
    refine qv_iconst (v := 0) rfl ?_
    refine qv_nil (nx := 4) rfl ?_
    refine qW.blk rfl ?_
    refine qv_iret (by first | exact bI_ret | rfl) ?_
    exact hQ
theorem w_Member_begin (hP : pm_np PR) {d : Nat} (hd : 2 ≤ d) {A : Nat} (hA : qMB A) (a0 a1 a2 a3 : Int32) (hk : ∀ s', qfr A (A + 2) s s' → qF s' A 0 = a0 → qF s' A 1 = a1 → qF s' A 2 = a2 → qF s' A 3 = a3 → qF s' A 4 = 0 → qF s' A 5 = 0 → (∀ e, e < 7 → qE s' (A + 1) e = 5 ∧ qE s' (A + 2) e = 5) → Q none s') : qP X PR d 43 [.ref A, .int a0, .int a1, .int a2, .int a3] s Q := by
  have hA8 := hA.1.1
  refine qP.of (L := [_, _, _, _, _]) (by omega) (hP _ rfl) ms_Member_begin rfl ?_
  show qW X PR (d - 1) (none) cd_Member_begin 0 _ _ _ _
  refine qW.blk rfl ?_
  refine qv_aload rfl ?_
  refine qv_iload rfl ?_
  refine qv_pi hA.1 ⟨rfl, rfl, rfl⟩ (rfl) ?_
  refine qv_aload rfl ?_
  refine qv_iload rfl ?_
  refine qv_pi hA.1 ⟨rfl, rfl, rfl⟩ (rfl) ?_
  refine qv_aload rfl ?_
  refine qv_iload rfl ?_
  refine qv_pi hA.1 ⟨rfl, rfl, rfl⟩ (rfl) ?_
  refine qv_aload rfl ?_
  refine qv_iload rfl ?_
  refine qv_pi hA.1 ⟨rfl, rfl, rfl⟩ (rfl) ?_
  refine qv_aload rfl ?_
  refine qv_iconst (v := 0) rfl ?_
  refine qv_pi hA.1 ⟨rfl, rfl, rfl⟩ (rfl) ?_
  refine qv_aload rfl ?_
  refine qv_iconst (v := 0) rfl ?_
  refine qv_pi hA.1 ⟨rfl, rfl, rfl⟩ (rfl) ?_
  refine qv_aload rfl ?_
  refine qv_gr hA.1 ⟨rfl, rfl, rfl⟩ (by omega) ?_
  refine qv_iconst (v := 5) rfl ?_
  refine qv_static sg_Arrays_fill rfl (w_fill hP (by omega) hA.2.1 (by decide) 5 ?_) 
  refine qv_aload rfl ?_
  refine qv_gr hA.1 ⟨rfl, rfl, rfl⟩ (by omega) ?_
  refine qv_iconst (v := 5) rfl ?_
  refine qv_static sg_Arrays_fill rfl (w_fill hP (by omega) hA.2.2 (by decide) 5 ?_) 
  refine qv_ret rfl ?_
  refine hk _ ((((((((qfr.rf s).uF (by omega)).uF (by omega)).uF (by omega)).uF (by omega)).uF (by omega)).uF (by omega)).uA (by omega) |>.uA (by omega)) ?_ ?_ ?_ ?_ ?_ ?_ (fun e he => ⟨?_, ?_⟩)
  · rw [qF_uA, qF_uA, qF_uFk (by decide), qF_uFk (by decide), qF_uFk (by decide), qF_uFk (by decide), qF_uFk (by decide), qF_uFs]
  · rw [qF_uA, qF_uA, qF_uFk (by decide), qF_uFk (by decide), qF_uFk (by decide), qF_uFk (by decide), qF_uFs]
  · rw [qF_uA, qF_uA, qF_uFk (by decide), qF_uFk (by decide), qF_uFk (by decide), qF_uFs]
  · rw [qF_uA, qF_uA, qF_uFk (by decide), qF_uFk (by decide), qF_uFs]
  · rw [qF_uA, qF_uA, qF_uFk (by decide), qF_uFs]
  · rw [qF_uA, qF_uA, qF_uFs]
  · rw [qE_uAc (by omega), qE_uAs, if_pos he]
  · rw [qE_uAs, if_pos he]
theorem w_Member_tellWishes (hP : pm_np PR) {d : Nat} (hd : 1 ≤ d) {A : Nat} (hA : qMB A) {B n : Nat} {ts : List Nat} (hB : qLY B (0, n, ts)) (hn : 7 ≤ n ∧ n < 1000) (hk : ∀ s', qfr (A + 1) (A + 1) s s' → (∀ e, e < 7 → qE s' (A + 1) e = qE s B e) → Q none s') : qP X PR d 46 [.ref A, .ref B] s Q := by
  have hA8 := hA.1.1
  refine qP.of (L := [_, _]) (by omega) (hP _ rfl) ms_Member_tellWishes rfl ?_
  show qW X PR (d - 1) (none) cd_Member_tellWishes 0 _ _ _ _
  refine qW.blk rfl ?_
  refine qv_aload rfl ?_
  refine qv_iconst (v := 0) rfl ?_
  refine qv_aload rfl ?_
  refine qv_gr hA.1 ⟨rfl, rfl, rfl⟩ (by omega) ?_
  refine qv_iconst (v := 0) rfl ?_
  refine qv_iconst (v := 7) rfl ?_
  refine qv_copy (p := 0) (q := 0) (m := 7) hB hA.2.1 rfl rfl rfl (⟨by omega, by omega, by omega, by decide⟩) (Nat.le_of_ble_eq_true rfl) ?_
  refine qv_ret rfl ?_
  exact hk _ ((qfr.rf s).uA (by omega)) (fun e he => by rw [qE_uAs, sb_cpy0 he])
theorem w_Member_takeOver (hP : pm_np PR) {d : Nat} (hd : 2 ≤ d) {A B : Nat} (hA : qMB A) (hB : qMB B) (hAB : A + 2 < B ∨ B + 2 < A) (hk : ∀ s', qfr A (A + 2) s s' → (∀ k, k < 6 → qF s' A k = qF s B k) → (∀ e, e < 7 → qE s' (A + 1) e = qE s (B + 1) e ∧ qE s' (A + 2) e = qE s (B + 2) e) → Q none s') : qP X PR d 45 [.ref A, .ref B] s Q := by
  have hA8 := hA.1.1
  have hB8 := hB.1.1
  refine qP.of (L := [_, _]) (by omega) (hP _ rfl) ms_Member_takeOver rfl ?_
  show qW X PR (d - 1) (none) cd_Member_takeOver 0 _ _ _ _
  have hne : B ≠ A := by omega
  refine qW.blk rfl ?_
  refine qv_aload rfl ?_
  refine qv_aload rfl ?_
  refine qv_gi hB.1 ⟨rfl, rfl, rfl⟩ rfl ?_
  refine qv_pi hA.1 ⟨rfl, rfl, rfl⟩ (rfl) ?_
  refine qv_aload rfl ?_
  refine qv_aload rfl ?_
  refine qv_gi hB.1 ⟨rfl, rfl, rfl⟩ (congrFun (qF_uFc hne) 1) ?_
  refine qv_pi hA.1 ⟨rfl, rfl, rfl⟩ (rfl) ?_
  refine qv_aload rfl ?_
  refine qv_aload rfl ?_
  refine qv_gi hB.1 ⟨rfl, rfl, rfl⟩ ((congrFun (qF_uFc hne) 2).trans (congrFun (qF_uFc hne) 2)) ?_
  refine qv_pi hA.1 ⟨rfl, rfl, rfl⟩ (rfl) ?_
  refine qv_aload rfl ?_
  refine qv_aload rfl ?_
  refine qv_gi hB.1 ⟨rfl, rfl, rfl⟩ (((congrFun (qF_uFc hne) 3).trans (congrFun (qF_uFc hne) 3)).trans (congrFun (qF_uFc hne) 3)) ?_
  refine qv_pi hA.1 ⟨rfl, rfl, rfl⟩ (rfl) ?_
  refine qv_aload rfl ?_
  refine qv_aload rfl ?_
  refine qv_gi hB.1 ⟨rfl, rfl, rfl⟩ ((((congrFun (qF_uFc hne) 4).trans (congrFun (qF_uFc hne) 4)).trans (congrFun (qF_uFc hne) 4)).trans (congrFun (qF_uFc hne) 4)) ?_
  refine qv_pi hA.1 ⟨rfl, rfl, rfl⟩ (rfl) ?_
  refine qv_aload rfl ?_
  refine qv_aload rfl ?_
  refine qv_gi hB.1 ⟨rfl, rfl, rfl⟩ (((((congrFun (qF_uFc hne) 5).trans (congrFun (qF_uFc hne) 5)).trans (congrFun (qF_uFc hne) 5)).trans (congrFun (qF_uFc hne) 5)).trans (congrFun (qF_uFc hne) 5)) ?_
  refine qv_pi hA.1 ⟨rfl, rfl, rfl⟩ (rfl) ?_
  refine qv_aload rfl ?_
  refine qv_aload rfl ?_
  refine qv_gr hB.1 ⟨rfl, rfl, rfl⟩ (by omega) ?_
  refine qv_virt (hA.1.rcv _) sg_Member_tellWishes rfl rfl (w_Member_tellWishes hP (by omega) hA hB.2.1 ⟨by omega, by decide⟩ (fun s1 F1 h1 => ?_)) 
  refine qv_aload rfl ?_
  refine qv_gr hB.1 ⟨rfl, rfl, rfl⟩ (by omega) ?_
  refine qv_iconst (v := 0) rfl ?_
  refine qv_aload rfl ?_
  refine qv_gr hA.1 ⟨rfl, rfl, rfl⟩ (by omega) ?_
  refine qv_iconst (v := 0) rfl ?_
  refine qv_iconst (v := 7) rfl ?_
  refine qv_copy (p := 0) (q := 0) (m := 7) hB.2.2 hA.2.2 rfl rfl rfl (⟨by omega, by omega, by decide, by decide⟩) (Nat.le_of_ble_eq_true rfl) ?_
  refine qv_ret rfl ?_
  have F0 := (((((((qfr.rf (lo := A) (hi := A + 2) s).uF (c := A) (k := 0) (v := qF s B 0) (by omega)).uF (c := A) (k := 1) (v := qF s B 1) (by omega)).uF (c := A) (k := 2) (v := qF s B 2) (by omega)).uF (c := A) (k := 3) (v := qF s B 3) (by omega)).uF (c := A) (k := 4) (v := qF s B 4) (by omega)).uF (c := A) (k := 5) (v := qF s B 5) (by omega))
  refine hk _ ((F0.trans (F1.mono (by omega) (by omega))).uA (by omega)) (fun k hk6 => ?_) (fun e he => ⟨?_, ?_⟩)
  · rw [qF_uA, F1.f (by omega)]
    rcases (show k = 0 ∨ k = 1 ∨ k = 2 ∨ k = 3 ∨ k = 4 ∨ k = 5 by omega) with rfl | rfl | rfl | rfl | rfl | rfl
    · rw [qF_uFk (by decide), qF_uFk (by decide), qF_uFk (by decide), qF_uFk (by decide), qF_uFk (by decide), qF_uFs]
    · rw [qF_uFk (by decide), qF_uFk (by decide), qF_uFk (by decide), qF_uFk (by decide), qF_uFs]
    · rw [qF_uFk (by decide), qF_uFk (by decide), qF_uFk (by decide), qF_uFs]
    · rw [qF_uFk (by decide), qF_uFk (by decide), qF_uFs]
    · rw [qF_uFk (by decide), qF_uFs]
    · rw [qF_uFs]
  · rw [qE_uAc (by omega), h1 e he]; rfl
  · rw [qE_uAs, sb_cpy0 he, F1.e (by omega)]; rfl
theorem r_Member_weight (hP : pm_np PR) {d : Nat} (hd : 1 ≤ d) {A k v n : Nat} (hA : qMB A) (h1 : qF s A 1 = nI k) (hk5 : k ≤ 5) (h2 : qF s A 2 = nI v) (hv : 1 ≤ v ∧ v ≤ 9) (h3 : qF s A 3 = nI n) (hn : n < 10) : pm_run X pm_Ms PR d 44 [.ref A] (qhp s) = some (some (.int (nI (heftN k v n))), qhp s) := by
  refine qP.run ?_
  have hA8 := hA.1.1
  refine qP.of (L := [_]) (by omega) (hP _ rfl) ms_Member_weight rfl ?_
  show qW X PR (d - 1) (some .int) cd_Member_weight 0 _ _ _ _
  rcases (show k = 0 ∨ k = 1 ∨ k = 2 ∨ k = 3 ∨ k = 4 ∨ k = 5 by omega) with rfl | rfl | rfl | rfl | rfl | rfl
  · refine qW.blk rfl ?_
    refine qv_aload rfl ?_
    refine qv_gi hA.1 ⟨rfl, rfl, rfl⟩ (h1) ?_
    refine qv_table (tab15) (tgt := 6) rfl ?_
    refine qW.blk rfl ?_
    refine qv_aload rfl ?_
    refine qv_gi hA.1 ⟨rfl, rfl, rfl⟩ (h2) ?_
    refine qv_iret (rfl) ?_
    exact ⟨rfl, rfl⟩
  · refine qW.blk rfl ?_
    refine qv_aload rfl ?_
    refine qv_gi hA.1 ⟨rfl, rfl, rfl⟩ (h1) ?_
    refine qv_table (tab15) (tgt := 1) rfl ?_
    refine qW.blk rfl ?_
    refine qv_aload rfl ?_
    refine qv_gi hA.1 ⟨rfl, rfl, rfl⟩ (h2) ?_
    refine qv_iconst (v := 1) rfl ?_
    refine qv_iaddN (q := 1) rfl rfl ?_
    refine qv_iret (rfl) ?_
    exact ⟨rfl, rfl⟩
  · refine qW.blk rfl ?_
    refine qv_aload rfl ?_
    refine qv_gi hA.1 ⟨rfl, rfl, rfl⟩ (h1) ?_
    refine qv_table (tab15) (tgt := 2) rfl ?_
    refine qW.blk rfl ?_
    refine qv_aload rfl ?_
    refine qv_gi hA.1 ⟨rfl, rfl, rfl⟩ (h2) ?_
    refine qv_iconst (v := 1) rfl ?_
    refine qv_iaddN (q := 1) rfl rfl ?_
    refine qv_aload rfl ?_
    refine qv_gi hA.1 ⟨rfl, rfl, rfl⟩ (h3) ?_
    refine qv_iaddN rfl rfl ?_
    refine qv_iret (rfl) ?_
    exact ⟨rfl, rfl⟩
  · refine qW.blk rfl ?_
    refine qv_aload rfl ?_
    refine qv_gi hA.1 ⟨rfl, rfl, rfl⟩ (h1) ?_
    refine qv_table (tab15) (tgt := 3) rfl ?_
    refine qW.blk rfl ?_
    refine qv_iconst (v := 2) rfl ?_
    refine qv_aload rfl ?_
    refine qv_gi hA.1 ⟨rfl, rfl, rfl⟩ (h2) ?_
    refine qv_imulN (p := 2) rfl rfl ?_
    refine qv_iret (rfl) ?_
    exact ⟨rfl, rfl⟩
  · refine qW.blk rfl ?_
    refine qv_aload rfl ?_
    refine qv_gi hA.1 ⟨rfl, rfl, rfl⟩ (h1) ?_
    refine qv_table (tab15) (tgt := 4) rfl ?_
    refine qW.blk rfl ?_
    refine qv_iconst (v := 2) rfl ?_
    refine qv_aload rfl ?_
    refine qv_gi hA.1 ⟨rfl, rfl, rfl⟩ (h2) ?_
    refine qv_imulN (p := 2) rfl rfl ?_
    refine qv_iconst (v := 1) rfl ?_
    refine qv_isubN (q := 1) rfl rfl (by omega) ?_
    refine qv_iret (rfl) ?_
    exact ⟨rfl, rfl⟩
  · refine qW.blk rfl ?_
    refine qv_aload rfl ?_
    refine qv_gi hA.1 ⟨rfl, rfl, rfl⟩ (h1) ?_
    refine qv_table (tab15) (tgt := 5) rfl ?_
    refine qW.blk rfl ?_
    refine qv_aload rfl ?_
    refine qv_gi hA.1 ⟨rfl, rfl, rfl⟩ (h2) ?_
    refine qv_iconst (v := 2) rfl ?_
    refine qv_idivN (q := 2) rfl rfl (by omega) (by omega) (by omega) ?_
    refine qv_iret (rfl) ?_
    exact ⟨rfl, rfl⟩
theorem r_isA (hP : pm_np PR) {d : Nat} (hd : 1 ≤ d) {k h w : Nat} (hk8 : k < 8) (h0 : qF s (123 + 5 * k) 0 = nI h) (hh : h ≤ 2) (hw : w ≤ 2) : pm_run X pm_Ms PR d 98 [.ref (123 + 5 * k), .int (nI w)] (qhp s) = some (some (.int (bI (h = w))), qhp s) := by
  refine qP.run ?_
  refine qP.of (L := [_, _]) (by omega) (hP _ rfl) ms_Shelf_isA rfl ?_
  show qW X PR (d - 1) (some .boolean) cd_Shelf_isA 0 _ _ _ _
  by_cases e : h = w
  · rw [bI_t e]
    refine qW.blk rfl ?_
    refine qv_iload rfl ?_
    refine qv_iconst (v := 3) rfl ?_
    refine qv_icmp_neNt (q := 3) rfl rfl (by omega) (by omega) (by omega) (tgt := 5) rfl ?_
    refine qW.blk rfl ?_
    refine qv_aload rfl ?_
    refine qv_gi (ly_sh (d := k) (by omega)) ⟨rfl, rfl, rfl⟩ (h0) ?_
    refine qv_iload rfl ?_
    refine qv_icmp_neNf rfl rfl (by omega) (by omega) (by omega) (nx := 6) rfl ?_
    refine qW.blk rfl ?_
    refine qv_iconst (v := 1) rfl ?_
    refine qv_goto (tgt := 8) rfl ?_
    refine qW.blk rfl ?_
    refine qv_iret (by first | exact bI_ret | rfl) ?_
    exact ⟨rfl, rfl⟩
  · rw [bI_f e]
    refine qW.blk rfl ?_
    refine qv_iload rfl ?_
    refine qv_iconst (v := 3) rfl ?_
    refine qv_icmp_neNt (q := 3) rfl rfl (by omega) (by omega) (by omega) (tgt := 5) rfl ?_
    refine qW.blk rfl ?_
    refine qv_aload rfl ?_
    refine qv_gi (ly_sh (d := k) (by omega)) ⟨rfl, rfl, rfl⟩ (h0) ?_
    refine qv_iload rfl ?_
    refine qv_icmp_neNt rfl rfl (by omega) (by omega) (by omega) (tgt := 7) rfl ?_
    refine qW.blk rfl ?_
    refine qv_iconst (v := 0) rfl ?_
    refine qv_nil (nx := 8) rfl ?_
    refine qW.blk rfl ?_
    refine qv_iret (by first | exact bI_ret | rfl) ?_
    exact ⟨rfl, rfl⟩
theorem r_isA3 (hP : pm_np PR) {d : Nat} (hd : 1 ≤ d) {k h so : Nat} (hk8 : k < 8) (h0 : qF s (123 + 5 * k) 0 = nI h) (hh : h ≤ 2) (h1 : h = 2 → qF s (123 + 5 * k) 1 = nI so) (hs : so ≤ 2) : pm_run X pm_Ms PR d 98 [.ref (123 + 5 * k), .int 3] (qhp s) = some (some (.int (bI (h = 2 ∧ so = 0))), qhp s) := by
  refine qP.run ?_
  refine qP.of (L := [_, _]) (by omega) (hP _ rfl) ms_Shelf_isA rfl ?_
  show qW X PR (d - 1) (some .boolean) cd_Shelf_isA 0 _ _ _ _
  by_cases e : h = 2
  · by_cases e2 : so = 0
    · rw [bI_t ⟨e, e2⟩]
      refine qW.blk rfl ?_
      refine qv_iload rfl ?_
      refine qv_iconst (v := 3) rfl ?_
      refine qv_icmp_neNf (p := 3) (q := 3) rfl rfl (by omega) (by omega) (by omega) (nx := 1) rfl ?_
      refine qW.blk rfl ?_
      refine qv_aload rfl ?_
      refine qv_gi (ly_sh (d := k) (by omega)) ⟨rfl, rfl, rfl⟩ (h0) ?_
      refine qv_iconst (v := 2) rfl ?_
      refine qv_icmp_neNf (q := 2) rfl rfl (by omega) (by omega) (by omega) (nx := 2) rfl ?_
      refine qW.blk rfl ?_
      refine qv_aload rfl ?_
      refine qv_gi (ly_sh (d := k) (by omega)) ⟨rfl, rfl, rfl⟩ (h1 e) ?_
      refine qv_if_neNf rfl (by omega) (by omega) (nx := 3) rfl ?_
      refine qW.blk rfl ?_
      refine qv_iconst (v := 1) rfl ?_
      refine qv_goto (tgt := 8) rfl ?_
      refine qW.blk rfl ?_
      refine qv_iret (by first | exact bI_ret | rfl) ?_
      exact ⟨rfl, rfl⟩
    · rw [bI_f (fun z => e2 z.2)]
      refine qW.blk rfl ?_
      refine qv_iload rfl ?_
      refine qv_iconst (v := 3) rfl ?_
      refine qv_icmp_neNf (p := 3) (q := 3) rfl rfl (by omega) (by omega) (by omega) (nx := 1) rfl ?_
      refine qW.blk rfl ?_
      refine qv_aload rfl ?_
      refine qv_gi (ly_sh (d := k) (by omega)) ⟨rfl, rfl, rfl⟩ (h0) ?_
      refine qv_iconst (v := 2) rfl ?_
      refine qv_icmp_neNf (q := 2) rfl rfl (by omega) (by omega) (by omega) (nx := 2) rfl ?_
      refine qW.blk rfl ?_
      refine qv_aload rfl ?_
      refine qv_gi (ly_sh (d := k) (by omega)) ⟨rfl, rfl, rfl⟩ (h1 e) ?_
      refine qv_if_neNt rfl (by omega) (by omega) (tgt := 4) rfl ?_
      refine qW.blk rfl ?_
      refine qv_iconst (v := 0) rfl ?_
      refine qv_goto (tgt := 8) rfl ?_
      refine qW.blk rfl ?_
      refine qv_iret (by first | exact bI_ret | rfl) ?_
      exact ⟨rfl, rfl⟩
  · rw [bI_f (fun z => e z.1)]
    refine qW.blk rfl ?_
    refine qv_iload rfl ?_
    refine qv_iconst (v := 3) rfl ?_
    refine qv_icmp_neNf (p := 3) (q := 3) rfl rfl (by omega) (by omega) (by omega) (nx := 1) rfl ?_
    refine qW.blk rfl ?_
    refine qv_aload rfl ?_
    refine qv_gi (ly_sh (d := k) (by omega)) ⟨rfl, rfl, rfl⟩ (h0) ?_
    refine qv_iconst (v := 2) rfl ?_
    refine qv_icmp_neNt (q := 2) rfl rfl (by omega) (by omega) (by omega) (tgt := 4) rfl ?_
    refine qW.blk rfl ?_
    refine qv_iconst (v := 0) rfl ?_
    refine qv_goto (tgt := 8) rfl ?_
    refine qW.blk rfl ?_
    refine qv_iret (by first | exact bI_ret | rfl) ?_
    exact ⟨rfl, rfl⟩
theorem r_refusalOf (hP : pm_np PR) {d : Nat} (hd : 2 ≤ d) {k h w : Nat} (hk8 : k < 8) (h0 : qF s (123 + 5 * k) 0 = nI h) (hh : h ≤ 2) (hw : w ≤ 2) : pm_run X pm_Ms PR d 121 [.ref (123 + 5 * k), .int (nI w)] (qhp s) = some (some (.int (refU h w)), qhp s) := by
  refine qP.run ?_
  refine qP.of (L := [_, _]) (by omega) (hP _ rfl) ms_Desk_refusalOf rfl ?_
  show qW X PR (d - 1) (some .int) cd_Desk_refusalOf 0 _ _ _ _
  unfold refU
  by_cases e : h = 0
  · rw [if_pos e]
    refine qW.blk rfl ?_
    refine qv_aload rfl ?_
    refine qv_nonnull_t (tgt := 2) rfl ?_
    refine qW.blk rfl ?_
    refine qv_aload rfl ?_
    refine qv_gi (ly_sh (d := k) (by omega)) ⟨rfl, rfl, rfl⟩ (h0) ?_
    refine qv_if_neNf rfl (by omega) (by omega) (nx := 3) rfl ?_
    refine qW.blk rfl ?_
    refine qv_iconst (v := (-11)) rfl ?_
    refine qv_iret (rfl) ?_
    exact ⟨rfl, rfl⟩
  · rw [if_neg e]
    by_cases e2 : h = w
    · rw [if_pos e2]
      refine qW.blk rfl ?_
      refine qv_aload rfl ?_
      refine qv_nonnull_t (tgt := 2) rfl ?_
      refine qW.blk rfl ?_
      refine qv_aload rfl ?_
      refine qv_gi (ly_sh (d := k) (by omega)) ⟨rfl, rfl, rfl⟩ (h0) ?_
      refine qv_if_neNt rfl (by omega) (by omega) (tgt := 4) rfl ?_
      refine qW.blk rfl ?_
      refine qv_aload rfl ?_
      refine qv_iload rfl ?_
      refine qv_virtE ((ly_sh (d := k) (by omega)).rcv _) sg_Shelf_isA rfl rfl (r_isA hP (by omega) hk8 h0 hh hw) ?_
      refine qv_if_eq_f (bI_ne.mpr (e2)) (nx := 5) rfl ?_
      refine qW.blk rfl ?_
      refine qv_iconst (v := 0) rfl ?_
      refine qv_goto (tgt := 7) rfl ?_
      refine qW.blk rfl ?_
      refine qv_iret (rfl) ?_
      exact ⟨rfl, rfl⟩
    · rw [if_neg e2]
      refine qW.blk rfl ?_
      refine qv_aload rfl ?_
      refine qv_nonnull_t (tgt := 2) rfl ?_
      refine qW.blk rfl ?_
      refine qv_aload rfl ?_
      refine qv_gi (ly_sh (d := k) (by omega)) ⟨rfl, rfl, rfl⟩ (h0) ?_
      refine qv_if_neNt rfl (by omega) (by omega) (tgt := 4) rfl ?_
      refine qW.blk rfl ?_
      refine qv_aload rfl ?_
      refine qv_iload rfl ?_
      refine qv_virtE ((ly_sh (d := k) (by omega)).rcv _) sg_Shelf_isA rfl rfl (r_isA hP (by omega) hk8 h0 hh hw) ?_
      refine qv_if_eq_t (bI_f (e2)) (tgt := 6) rfl ?_
      refine qW.blk rfl ?_
      refine qv_iconst (v := (-12)) rfl ?_
      refine qv_nil (nx := 7) rfl ?_
      refine qW.blk rfl ?_
      refine qv_iret (rfl) ?_
      exact ⟨rfl, rfl⟩
theorem r_rowRefusal (hP : pm_np PR) {d : Nat} (hd : 2 ≤ d) {k h : Nat} (hk8 : k < 8) (h0 : qF s (123 + 5 * k) 0 = nI h) (hh : h ≤ 2) : pm_run X pm_Ms PR d 121 [.ref (123 + 5 * k), .int 2] (qhp s) = some (some (.int (refU h 2)), qhp s) := r_refusalOf hP hd hk8 h0 hh (by decide : 2 ≤ 2)
theorem r_memberRefusal (hP : pm_np PR) {d : Nat} (hd : 2 ≤ d) {k h : Nat} (hk8 : k < 8) (h0 : qF s (123 + 5 * k) 0 = nI h) (hh : h ≤ 2) : pm_run X pm_Ms PR d 121 [.ref (123 + 5 * k), .int 1] (qhp s) = some (some (.int (refU h 1)), qhp s) := r_refusalOf hP hd hk8 h0 hh (by decide : 1 ≤ 2)
theorem r_bytesRefusal (hP : pm_np PR) {d : Nat} (hd : 2 ≤ d) {k h so : Nat} (hk8 : k < 8) (h0 : qF s (123 + 5 * k) 0 = nI h) (hh : h ≤ 2) (h1 : h = 2 → qF s (123 + 5 * k) 1 = nI so) (hs : so ≤ 2) : pm_run X pm_Ms PR d 121 [.ref (123 + 5 * k), .int 3] (qhp s) = some (some (.int (refB h so)), qhp s) := by
  refine qP.run ?_
  refine qP.of (L := [_, _]) (by omega) (hP _ rfl) ms_Desk_refusalOf rfl ?_
  show qW X PR (d - 1) (some .int) cd_Desk_refusalOf 0 _ _ _ _
  unfold refB refU
  by_cases e : h = 0
  · rw [if_neg (fun z => absurd (e.symm.trans z.1) (by decide)), if_pos e]
    refine qW.blk rfl ?_
    refine qv_aload rfl ?_
    refine qv_nonnull_t (tgt := 2) rfl ?_
    refine qW.blk rfl ?_
    refine qv_aload rfl ?_
    refine qv_gi (ly_sh (d := k) (by omega)) ⟨rfl, rfl, rfl⟩ (h0) ?_
    refine qv_if_neNf rfl (by omega) (by omega) (nx := 3) rfl ?_
    refine qW.blk rfl ?_
    refine qv_iconst (v := (-11)) rfl ?_
    refine qv_iret (rfl) ?_
    exact ⟨rfl, rfl⟩
  · by_cases e2 : h = 2 ∧ so = 0
    · rw [if_neg (fun z => z.2 e2.2), if_neg e, if_pos e2.1]
      refine qW.blk rfl ?_
      refine qv_aload rfl ?_
      refine qv_nonnull_t (tgt := 2) rfl ?_
      refine qW.blk rfl ?_
      refine qv_aload rfl ?_
      refine qv_gi (ly_sh (d := k) (by omega)) ⟨rfl, rfl, rfl⟩ (h0) ?_
      refine qv_if_neNt rfl (by omega) (by omega) (tgt := 4) rfl ?_
      refine qW.blk rfl ?_
      refine qv_aload rfl ?_
      refine qv_iload rfl ?_
      refine qv_virtE ((ly_sh (d := k) (by omega)).rcv _) sg_Shelf_isA rfl rfl (r_isA3 hP (by omega) hk8 h0 hh h1 hs) ?_
      refine qv_if_eq_f (bI_ne.mpr (e2)) (nx := 5) rfl ?_
      refine qW.blk rfl ?_
      refine qv_iconst (v := 0) rfl ?_
      refine qv_goto (tgt := 7) rfl ?_
      refine qW.blk rfl ?_
      refine qv_iret (rfl) ?_
      exact ⟨rfl, rfl⟩
    · have e3 : (if h = 2 ∧ ¬ so = 0 then (-12 : Int32) else if h = 0 then -11 else if h = 2 then 0 else -12) = -12 := by
        by_cases e4 : h = 2
        · rw [if_pos ⟨e4, fun z => e2 ⟨e4, z⟩⟩]
        · rw [if_neg (fun z => e4 z.1), if_neg e, if_neg e4]
      rw [e3]
      refine qW.blk rfl ?_
      refine qv_aload rfl ?_
      refine qv_nonnull_t (tgt := 2) rfl ?_
      refine qW.blk rfl ?_
      refine qv_aload rfl ?_
      refine qv_gi (ly_sh (d := k) (by omega)) ⟨rfl, rfl, rfl⟩ (h0) ?_
      refine qv_if_neNt rfl (by omega) (by omega) (tgt := 4) rfl ?_
      refine qW.blk rfl ?_
      refine qv_aload rfl ?_
      refine qv_iload rfl ?_
      refine qv_virtE ((ly_sh (d := k) (by omega)).rcv _) sg_Shelf_isA rfl rfl (r_isA3 hP (by omega) hk8 h0 hh h1 hs) ?_
      refine qv_if_eq_t (bI_f (e2)) (tgt := 6) rfl ?_
      refine qW.blk rfl ?_
      refine qv_iconst (v := (-12)) rfl ?_
      refine qv_nil (nx := 7) rfl ?_
      refine qW.blk rfl ?_
      refine qv_iret (rfl) ?_
      exact ⟨rfl, rfl⟩
theorem r_refusalNull (hP : pm_np PR) {d : Nat} (hd : 1 ≤ d) (w : Int32) : pm_run X pm_Ms PR d 121 [.null, .int w] (qhp s) = some (some (.int (-1)), qhp s) := by
  refine qP.run ?_
  refine qP.of (L := [_, _]) (by omega) (hP _ rfl) ms_Desk_refusalOf rfl ?_
  show qW X PR (d - 1) (some .int) cd_Desk_refusalOf 0 _ _ _ _
  refine qW.blk rfl ?_
  refine qv_aloadN rfl ?_
  refine qv_nonnull_f (nx := 1) rfl ?_
  refine qW.blk rfl ?_
  refine qv_iconst (v := (-1)) rfl ?_
  refine qv_iret (rfl) ?_
  exact ⟨rfl, rfl⟩
theorem w_Shelf_beginRow (hP : pm_np PR) {d : Nat} (hd : 2 ≤ d) {k : Nat} (hk8 : k < 8) (so n : Int32) (hk : ∀ s', qfr (123 + 5 * k) (127 + 5 * k) s s' → qF s' (123 + 5 * k) 0 = 2 → qF s' (123 + 5 * k) 1 = so → qF s' (123 + 5 * k) 2 = n → (∀ j, j < 120 → qE s' (123 + 5 * k + 4) j = 0) → Q none s') : qP X PR d 100 [.ref (123 + 5 * k), .int so, .int n] s Q := by
  refine qP.of (L := [_, _, _]) (by omega) (hP _ rfl) ms_Shelf_beginRow rfl ?_
  show qW X PR (d - 1) (none) cd_Shelf_beginRow 0 _ _ _ _
  refine qW.blk rfl ?_
  refine qv_aload rfl ?_
  refine qv_iconst (v := 2) rfl ?_
  refine qv_pi (ly_sh (d := k) (by omega)) ⟨rfl, rfl, rfl⟩ (rfl) ?_
  refine qv_aload rfl ?_
  refine qv_iload rfl ?_
  refine qv_pi (ly_sh (d := k) (by omega)) ⟨rfl, rfl, rfl⟩ (rfl) ?_
  refine qv_aload rfl ?_
  refine qv_iload rfl ?_
  refine qv_pi (ly_sh (d := k) (by omega)) ⟨rfl, rfl, rfl⟩ (rfl) ?_
  refine qv_aload rfl ?_
  refine qv_gr (ly_sh (d := k) (by omega)) ⟨rfl, rfl, rfl⟩ (by omega) ?_
  refine qv_iconst (v := 0) rfl ?_
  refine qv_static sg_Arrays_fill rfl (w_fill hP (by omega) (ly_shc hk8) (by decide) 0 ?_) 
  refine qv_ret rfl ?_
  refine hk _ ((((qfr.rf s).uF (by omega)).uF (by omega)).uF (by omega) |>.uA (by omega)) ?_ ?_ ?_ (fun j hj => ?_)
  · rw [qF_uA, qF_uFk (by decide), qF_uFk (by decide), qF_uFs]
  · rw [qF_uA, qF_uFk (by decide), qF_uFs]
  · rw [qF_uA, qF_uFs]
  · rw [qE_uAs, if_pos hj]
end
