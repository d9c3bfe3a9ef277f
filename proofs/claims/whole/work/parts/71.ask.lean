/-! ask, wonBy, why, parts are alike -/
theorem qah_find {t : TR} : ∀ (K q : Nat), q < qah t K → ∃ n, n < K ∧ (t n).1 = 1 ∧ qah t n = q := by
  intro K
  induction K with
  | zero => intro q h; exact absurd h (by show ¬ q < 0; omega)
  | succ K ih =>
    intro q h
    unfold qah at h
    by_cases h1 : (t K).1 = 1
    · rw [if_pos h1] at h
      by_cases h2 : q < qah t K
      · obtain ⟨n, n1, n2, n3⟩ := ih q h2
        exact ⟨n, by omega, n2, n3⟩
      · exact ⟨K, by omega, h1, by omega⟩
    · rw [if_neg h1] at h
      obtain ⟨n, n1, n2, n3⟩ := ih q (by omega)
      exact ⟨n, by omega, n2, n3⟩
theorem qah_le {t : TR} {n : Nat} : ∀ m, n ≤ m → qah t n ≤ qah t m := by
  intro m
  induction m with
  | zero => intro h; rw [show n = 0 by omega]; exact Nat.le_refl _
  | succ m ih =>
    intro h
    by_cases e : n = m + 1
    · rw [e]; exact Nat.le_refl _
    · have := ih (by omega)
      show qah t n ≤ qah t m + (if (t m).1 = 1 then 1 else 0)
      omega
theorem qah_lt {t : TR} {n m : Nat} (h : n < m) (h1 : (t n).1 = 1) : qah t n < qah t m := by
  have a := qah_le (t := t) (n := n + 1) m (by omega)
  have : qah t (n + 1) = qah t n + 1 := by show qah t n + (if (t n).1 = 1 then 1 else 0) = _; rw [if_pos h1]
  omega
theorem qah_bd {t : TR} : ∀ m, qah t m ≤ m := by
  intro m
  induction m with
  | zero => exact Nat.le_refl _
  | succ m ih => show qah t m + (if (t m).1 = 1 then 1 else 0) ≤ m + 1; split <;> omega
section
variable {X : pm_X} {PR : pm_P} {s : QST} {Q : QPost}
theorem w_nodeOf (hP : pm_np PR) {d : Nat} (hd : 1 ≤ d) {R : List va_E} {T K : Nat} {w sc pr : Nat → Int32} {tq ts ta : Int32} (hT : qTR R T K w sc pr tq ts ta) (hR : qR s = R) (hK : K ≤ 60) {t : TR} (ht : ctr t K w sc pr) {n : Nat} (hn : n < K) (h1 : (t n).1 = 1) (hk : Q (some (.int (nI n))) s) : qP X PR d 104 [.ref T, .int (nI (qah t n))] s Q := by
  have hqn := qah_bd (t := t) n
  refine qP.of (L := [_, _, _, _]) (by omega) (hP _ rfl) ms_Tree_nodeOf rfl ?_
  show qW X PR (d - 1) (some .int) cd_Tree_nodeOf 0 _ _ _ _
  have loop : ∀ (k j : Nat), j + k = n → qW X PR (d - 1) (some .int) cd_Tree_nodeOf 1 [some (.ref (T)), some (.int (nI (qah t n))), some (.int (nI (qah t n - qah t j))), some (.int (nI j))] [] s Q := by
    intro k
    induction k with
    | zero =>
      intro j hj
      have e : j = n := by omega
      subst e
      have hw := (ht j hn).2.2.1 h1
      refine qW.blk rfl ?_
      refine qv_iload rfl ?_
      refine qv_aload rfl ?_
      refine qv_gh (hT.o hR) rfl rfl ?_
      refine qv_icmp_geNf rfl rfl (by omega) (by omega) (by omega) (nx := 2) rfl ?_
      refine qW.blk rfl ?_
      refine qv_aload rfl ?_
      refine qv_gh (hT.o hR) rfl rfl ?_
      refine qv_iload rfl ?_
      refine qv_iah (hT.a1 hR) rfl (by omega) (by omega) (hw) ?_
      refine qv_iconst (v := 7) rfl ?_
      refine qv_icmp_ne_f (fun z => z rfl) (nx := 3) rfl ?_
      refine qW.blk rfl ?_
      refine qv_iload rfl ?_
      refine qv_if_neNf rfl (by omega) (by omega) (nx := 4) rfl ?_
      refine qW.blk rfl ?_
      refine qv_iload rfl ?_
      refine qv_iret (rfl) ?_
      exact hk
    | succ k ih =>
      intro j hj
      obtain ⟨t1, t2, t3, t4, t5⟩ := ht j (by omega)
      have st : qah t (j + 1) = qah t j + (if (t j).1 = 1 then 1 else 0) := rfl
      by_cases hq : (t j).1 = 1
      · have hlt := qah_lt (t := t) (n := j) (m := n) (by omega) hq
        rw [if_pos hq] at st
        have e1 : nI (qah t n - qah t j) + Int32.ofInt (-1) = nI (qah t n - qah t (j + 1)) := by
          obtain ⟨y, hy⟩ : ∃ y, qah t n - qah t j = y + 1 := ⟨qah t n - qah t j - 1, by omega⟩
          rw [hy, show Int32.ofInt (-1) = (-1 : Int32) from by decide, pk_m1]
          congr 1
          omega
        refine qW.blk rfl ?_
        refine qv_iload rfl ?_
        refine qv_aload rfl ?_
        refine qv_gh (hT.o hR) rfl rfl ?_
        refine qv_icmp_geNf rfl rfl (by omega) (by omega) (by omega) (nx := 2) rfl ?_
        refine qW.blk rfl ?_
        refine qv_aload rfl ?_
        refine qv_gh (hT.o hR) rfl rfl ?_
        refine qv_iload rfl ?_
        refine qv_iah (hT.a1 hR) rfl (by omega) (by omega) (t3 hq) ?_
        refine qv_iconst (v := 7) rfl ?_
        refine qv_icmp_ne_f (fun z => z rfl) (nx := 3) rfl ?_
        refine qW.blk rfl ?_
        refine qv_iload rfl ?_
        refine qv_if_neNt rfl (by omega) (by omega) (tgt := 5) rfl ?_
        refine qW.blk rfl ?_
        refine qv_iinc (L' := [_, _, _, _]) rfl (e1) rfl ?_
        refine qv_nil (nx := 6) rfl ?_
        refine qW.blk rfl ?_
        refine qv_iinc (L' := [_, _, _, _]) rfl (nI_succ _).symm rfl ?_
        refine qv_goto (tgt := 1) rfl ?_
        exact ih (j + 1) (by omega)
      · rw [if_neg hq, Nat.add_zero] at st
        have hw : ¬ w j = 7 := by
          rcases (show (t j).1 = 0 ∨ (t j).1 = 2 by omega) with h0 | h0
          · obtain ⟨g1, g2⟩ := t2 h0
            rw [g2]
            exact fun z => by have := (nI_eq (a := (t j).2.2.2.1) (b := 7) (by omega) (by omega)).mp z; omega
          · rw [(t4 h0).1]; decide
        have := ih (j + 1) (by omega)
        rw [st] at this
        refine qW.blk rfl ?_
        refine qv_iload rfl ?_
        refine qv_aload rfl ?_
        refine qv_gh (hT.o hR) rfl rfl ?_
        refine qv_icmp_geNf rfl rfl (by omega) (by omega) (by omega) (nx := 2) rfl ?_
        refine qW.blk rfl ?_
        refine qv_aload rfl ?_
        refine qv_gh (hT.o hR) rfl rfl ?_
        refine qv_iload rfl ?_
        refine qv_iah (hT.a1 hR) rfl (by omega) (by omega) (rfl) ?_
        refine qv_iconst (v := 7) rfl ?_
        refine qv_icmp_ne_t (hw) (tgt := 6) rfl ?_
        refine qW.blk rfl ?_
        refine qv_iinc (L' := [_, _, _, _]) rfl (nI_succ _).symm rfl ?_
        refine qv_goto (tgt := 1) rfl ?_
        exact this
  have l0 := loop n 0 (by omega)
  have e0 : qah t n - qah t 0 = qah t n := rfl
  rw [e0] at l0
  refine qW.blk rfl ?_
  refine qv_iload rfl ?_
  refine qv_istore (L' := [_, _, _, _]) rfl ?_
  refine qv_iconst (v := 0) rfl ?_
  refine qv_istore (L' := [_, _, _, _]) rfl ?_
  refine qv_nil (nx := 1) rfl ?_
  exact l0
theorem w_M_nodeOf (hP : pm_np PR) {d : Nat} (hd : 1 ≤ d) {D : TD} (hD : tdOK D) (hi : qF s 163 15 = nI D.2.2.2.1) (hat : tr_at (fun k => qE s (164 + k)) D.2.1 D.2.2.2.1) {n : Nat} (hn : n < D.2.2.2.1) (h1 : (D.1 n).1 = 1) (hk : Q (some (.int (nI (D.2.2.1 n)))) s) : qP X PR d 212 [.ref 163, .int (nI (qah D.1 n))] s Q := by
  obtain ⟨hK0, hK, hpre, htr, ⟨i1, i2, i3, i4⟩, -⟩ := hD
  have hqn := qah_bd (t := D.1) n
  have hwn := i2 n hn
  have key : ∀ m, m < D.2.2.2.1 → ((D.2.1 m).1 = 1 ∧ (D.2.1 m).2.2.2.1 = qah D.1 n ↔ m = D.2.2.1 n) := by
    intro m hm
    constructor
    · rintro ⟨h2, h3⟩
      obtain ⟨n', n1, rfl⟩ := i3 m hm
      obtain ⟨u1, u2, u3, u4, u5⟩ := i4 n' n1
      have k1 : (D.1 n').1 = 1 := u1.symm.trans h2
      have e := (u5 k1).symm.trans h3
      rcases Nat.lt_trichotomy n' n with h | h | h
      · have := qah_lt h k1; omega
      · rw [h]
      · have := qah_lt h h1; omega
    · rintro rfl
      obtain ⟨u1, u2, u3, u4, u5⟩ := i4 n hn
      exact ⟨u1.trans h1, u5 h1⟩
  refine qP.of (L := [_, _, _, _]) (by omega) (hP _ rfl) ms_Model_nodeOf rfl ?_
  show qW X PR (d - 1) (some .int) cd_Model_nodeOf 0 _ _ _ _
  have loop : ∀ (k j : Nat) (f : Int32), j + k = D.2.2.2.1 → f = (if D.2.2.1 n < j then nI (D.2.2.1 n) else -1) → qW X PR (d - 1) (some .int) cd_Model_nodeOf 1 [some (.ref (163)), some (.int (nI (qah D.1 n))), some (.int (f)), some (.int (nI j))] [] s Q := by
    intro k
    induction k with
    | zero =>
      intro j f hj hf
      have e : j = D.2.2.2.1 := by omega
      subst e
      rw [if_pos hwn] at hf
      subst hf
      refine qW.blk rfl ?_
      refine qv_iload rfl ?_
      refine qv_aload rfl ?_
      refine qv_gi ly_163 ⟨rfl, rfl, rfl⟩ (hi) ?_
      refine qv_icmp_geNt rfl rfl (by omega) (by omega) (by omega) (tgt := 7) rfl ?_
      refine qW.blk rfl ?_
      refine qv_iload rfl ?_
      refine qv_iret (rfl) ?_
      exact hk
    | succ k ih =>
      intro j f hj hf
      obtain ⟨a1, a2, a3, a4⟩ := hat j (by omega)
      have x1 : qE s 173 j = nI (D.2.1 j).1 := a1
      have x2 : qE s 176 j = nI (D.2.1 j).2.2.2.1 := a3 trivial
      have ht1 := (htr j (by omega)).1
      by_cases e : j = D.2.2.1 n
      · obtain ⟨k1, k2⟩ := (key j (by omega)).mpr e
        rw [k1] at x1
        rw [k2] at x2
        refine qW.blk rfl ?_
        refine qv_iload rfl ?_
        refine qv_aload rfl ?_
        refine qv_gi ly_163 ⟨rfl, rfl, rfl⟩ (hi) ?_
        refine qv_icmp_geNf rfl rfl (by omega) (by omega) (by omega) (nx := 2) rfl ?_
        refine qW.blk rfl ?_
        refine qv_aload rfl ?_
        refine qv_gr ly_163 ⟨rfl, rfl, rfl⟩ (by omega) ?_
        refine qv_iload rfl ?_
        refine qv_ia ly_173 rfl (by omega) (by decide) (x1) ?_
        refine qv_iconst (v := 1) rfl ?_
        refine qv_icmp_neNf (q := 1) rfl rfl (by omega) (by omega) (by omega) (nx := 3) rfl ?_
        refine qW.blk rfl ?_
        refine qv_aload rfl ?_
        refine qv_gr ly_163 ⟨rfl, rfl, rfl⟩ (by omega) ?_
        refine qv_iload rfl ?_
        refine qv_ia ly_176 rfl (by omega) (by decide) (x2) ?_
        refine qv_iload rfl ?_
        refine qv_icmp_neNf rfl rfl (by omega) (by omega) (by omega) (nx := 4) rfl ?_
        refine qW.blk rfl ?_
        refine qv_iload rfl ?_
        refine qv_goto (tgt := 6) rfl ?_
        refine qW.blk rfl ?_
        refine qv_istore (L' := [_, _, _, _]) rfl ?_
        refine qv_iinc (L' := [_, _, _, _]) rfl (nI_succ _).symm rfl ?_
        refine qv_goto (tgt := 1) rfl ?_
        exact ih (j + 1) _ (by omega) (by rw [if_pos (by omega), e])
      · have hnk : ¬ ((D.2.1 j).1 = 1 ∧ (D.2.1 j).2.2.2.1 = qah D.1 n) := fun z => e ((key j (by omega)).mp z)
        have nf : f = (if D.2.2.1 n < j + 1 then nI (D.2.2.1 n) else -1) := by
          rw [hf]
          by_cases h : D.2.2.1 n < j
          · rw [if_pos h, if_pos (by omega)]
          · rw [if_neg h, if_neg (by omega)]
        by_cases k1 : (D.2.1 j).1 = 1
        · obtain ⟨n', n1, n2⟩ := i3 j (by omega)
          obtain ⟨u1, u2, u3, u4, u5⟩ := i4 n' n1
          have k3 : (D.1 n').1 = 1 := by rw [← u1, n2]; exact k1
          have k4 : (D.2.1 j).2.2.2.1 = qah D.1 n' := by rw [← n2]; exact u5 k3
          have k5 := qah_bd (t := D.1) n'
          have k2 : ¬ (D.2.1 j).2.2.2.1 = qah D.1 n := fun z => hnk ⟨k1, z⟩
          rw [k1] at x1
          rw [k4] at x2 k2
          refine qW.blk rfl ?_
          refine qv_iload rfl ?_
          refine qv_aload rfl ?_
          refine qv_gi ly_163 ⟨rfl, rfl, rfl⟩ (hi) ?_
          refine qv_icmp_geNf rfl rfl (by omega) (by omega) (by omega) (nx := 2) rfl ?_
          refine qW.blk rfl ?_
          refine qv_aload rfl ?_
          refine qv_gr ly_163 ⟨rfl, rfl, rfl⟩ (by omega) ?_
          refine qv_iload rfl ?_
          refine qv_ia ly_173 rfl (by omega) (by decide) (x1) ?_
          refine qv_iconst (v := 1) rfl ?_
          refine qv_icmp_neNf (q := 1) rfl rfl (by omega) (by omega) (by omega) (nx := 3) rfl ?_
          refine qW.blk rfl ?_
          refine qv_aload rfl ?_
          refine qv_gr ly_163 ⟨rfl, rfl, rfl⟩ (by omega) ?_
          refine qv_iload rfl ?_
          refine qv_ia ly_176 rfl (by omega) (by decide) (x2) ?_
          refine qv_iload rfl ?_
          refine qv_icmp_neNt rfl rfl (by omega) (by omega) (by omega) (tgt := 5) rfl ?_
          refine qW.blk rfl ?_
          refine qv_iload rfl ?_
          refine qv_nil (nx := 6) rfl ?_
          refine qW.blk rfl ?_
          refine qv_istore (L' := [_, _, _, _]) rfl ?_
          refine qv_iinc (L' := [_, _, _, _]) rfl (nI_succ _).symm rfl ?_
          refine qv_goto (tgt := 1) rfl ?_
          exact ih (j + 1) _ (by omega) nf
        · refine qW.blk rfl ?_
          refine qv_iload rfl ?_
          refine qv_aload rfl ?_
          refine qv_gi ly_163 ⟨rfl, rfl, rfl⟩ (hi) ?_
          refine qv_icmp_geNf rfl rfl (by omega) (by omega) (by omega) (nx := 2) rfl ?_
          refine qW.blk rfl ?_
          refine qv_aload rfl ?_
          refine qv_gr ly_163 ⟨rfl, rfl, rfl⟩ (by omega) ?_
          refine qv_iload rfl ?_
          refine qv_ia ly_173 rfl (by omega) (by decide) (x1) ?_
          refine qv_iconst (v := 1) rfl ?_
          refine qv_icmp_neNt (q := 1) rfl rfl (by omega) (by omega) (by omega) (tgt := 5) rfl ?_
          refine qW.blk rfl ?_
          refine qv_iload rfl ?_
          refine qv_nil (nx := 6) rfl ?_
          refine qW.blk rfl ?_
          refine qv_istore (L' := [_, _, _, _]) rfl ?_
          refine qv_iinc (L' := [_, _, _, _]) rfl (nI_succ _).symm rfl ?_
          refine qv_goto (tgt := 1) rfl ?_
          exact ih (j + 1) _ (by omega) nf
  refine qW.blk rfl ?_
  refine qv_iconst (v := (-1)) rfl ?_
  refine qv_istore (L' := [_, _, _, _]) rfl ?_
  refine qv_iconst (v := 0) rfl ?_
  refine qv_istore (L' := [_, _, _, _]) rfl ?_
  refine qv_nil (nx := 1) rfl ?_
  exact loop D.2.2.2.1 0 _ (by omega) (by rw [if_neg (by omega)])
end
section
variable {X : pm_X} {PR : pm_P}
theorem w_M_isQ_y (hP : pm_np PR) {d : Nat} (hd : 3 ≤ d) {s : QST} {Q : QPost} {T k q n : Nat} (hT : qE s 164 3 = nI T) (hT12 : T ≤ 12) (hk3 : k < T) (hn : qE s 167 k = nI n) (hn60 : n < 1000) (hq : q < n) (hk : Q (some (.int 1)) s) : qP X PR d 211 [.ref 163, .int (nI k), .int (nI q)] s Q := by
  refine qP.of (L := [_, _, _]) (by omega) (hP _ rfl) ms_Model_isQuestion rfl ?_
  show qW X PR (d - 1) (some .boolean) cd_Model_isQuestion 0 _ _ _ _
  refine qW.blk rfl ?_
  refine qv_aload rfl ?_
  refine qv_iload rfl ?_
  refine qv_virtE (ly_163.rcv _) sg_Model_isTree rfl rfl (r_M_isTree hP (by omega) (nI k) hT) ?_
  refine qv_if_eq_f (bI_ne.mpr ((in_nI1 (by omega)).mpr ⟨k, hk3, rfl⟩)) (nx := 1) rfl ?_
  refine qW.blk rfl ?_
  refine qv_iload rfl ?_
  refine qv_iconst (v := 0) rfl ?_
  refine qv_aload rfl ?_
  refine qv_gr ly_163 ⟨rfl, rfl, rfl⟩ (by omega) ?_
  refine qv_iload rfl ?_
  refine qv_ia ly_167 rfl (by omega) (by decide) (hn) ?_
  refine qv_iconst (v := 1) rfl ?_
  refine qv_isub ?_
  refine qv_staticE sg_Model_in rfl (r_Model_in hP (by omega) (nI q) 0 (nI n - 1) _) ?_
  refine qv_if_eq_f (bI_ne.mpr ((in_nI1 (by omega)).mpr ⟨q, hq, rfl⟩)) (nx := 2) rfl ?_
  refine qW.blk rfl ?_
  refine qv_iconst (v := 1) rfl ?_
  refine qv_goto (tgt := 4) rfl ?_
  refine qW.blk rfl ?_
  refine qv_iret (by first | exact bI_ret | rfl) ?_
  exact hk
theorem w_M_isQ_n (hP : pm_np PR) {d : Nat} (hd : 3 ≤ d) {s : QST} {Q : QPost} {T k n : Nat} {q : Int32} (hT : qE s 164 3 = nI T) (hT12 : T ≤ 12) (hk3 : k < T) (hn : qE s 167 k = nI n) (hn60 : n < 1000) (hq : ¬ ∃ j, j < n ∧ q = nI j) (hk : Q (some (.int 0)) s) : qP X PR d 211 [.ref 163, .int (nI k), .int q] s Q := by
  refine qP.of (L := [_, _, _]) (by omega) (hP _ rfl) ms_Model_isQuestion rfl ?_
  show qW X PR (d - 1) (some .boolean) cd_Model_isQuestion 0 _ _ _ _
  refine qW.blk rfl ?_
  refine qv_aload rfl ?_
  refine qv_iload rfl ?_
  refine qv_virtE (ly_163.rcv _) sg_Model_isTree rfl rfl (r_M_isTree hP (by omega) (nI k) hT) ?_
  refine qv_if_eq_f (bI_ne.mpr ((in_nI1 (by omega)).mpr ⟨k, hk3, rfl⟩)) (nx := 1) rfl ?_
  refine qW.blk rfl ?_
  refine qv_iload rfl ?_
  refine qv_iconst (v := 0) rfl ?_
  refine qv_aload rfl ?_
  refine qv_gr ly_163 ⟨rfl, rfl, rfl⟩ (by omega) ?_
  refine qv_iload rfl ?_
  refine qv_ia ly_167 rfl (by omega) (by decide) (hn) ?_
  refine qv_iconst (v := 1) rfl ?_
  refine qv_isub ?_
  refine qv_staticE sg_Model_in rfl (r_Model_in hP (by omega) q 0 (nI n - 1) _) ?_
  refine qv_if_eq_t (bI_f (fun z => hq ((in_nI1 (by omega)).mp z))) (tgt := 3) rfl ?_
  refine qW.blk rfl ?_
  refine qv_iconst (v := 0) rfl ?_
  refine qv_nil (nx := 4) rfl ?_
  refine qW.blk rfl ?_
  refine qv_iret (by first | exact bI_ret | rfl) ?_
  exact hk
theorem w_M_isQ_t (hP : pm_np PR) {d : Nat} (hd : 3 ≤ d) {s : QST} {Q : QPost} {T : Nat} {t q : Int32} (hT : qE s 164 3 = nI T) (hT12 : T ≤ 12) (hk3 : ¬ ∃ j, j < T ∧ t = nI j) (hk : Q (some (.int 0)) s) : qP X PR d 211 [.ref 163, .int t, .int q] s Q := by
  refine qP.of (L := [_, _, _]) (by omega) (hP _ rfl) ms_Model_isQuestion rfl ?_
  show qW X PR (d - 1) (some .boolean) cd_Model_isQuestion 0 _ _ _ _
  refine qW.blk rfl ?_
  refine qv_aload rfl ?_
  refine qv_iload rfl ?_
  refine qv_virtE (ly_163.rcv _) sg_Model_isTree rfl rfl (r_M_isTree hP (by omega) t hT) ?_
  refine qv_if_eq_t (bI_f (fun z => hk3 ((in_nI1 (by omega)).mp z))) (tgt := 3) rfl ?_
  refine qW.blk rfl ?_
  refine qv_iconst (v := 0) rfl ?_
  refine qv_nil (nx := 4) rfl ?_
  refine qW.blk rfl ?_
  refine qv_iret (by first | exact bI_ret | rfl) ?_
  exact hk
theorem Sim_wonBy (hP : pm_np PR) (t q : Int32) : Sim X PR 128 213 [.int t, .int q] := by
  intro d A hd hA
  have hC := hA.1
  have h12 := hC.2.2.2.2.1
  rcases pl_of t (aC A 3) with ⟨k, hk3, rfl⟩ | hn
  · have hD := hA.2.2.2.1 k hk3
    have hK := hD.2.1
    have hQ := hD.2.2.2.2.2.1
    have hQb := qah_bd (t := (aT A k).1) (aT A k).2.2.2.1
    rcases pl_of q (aT A k).2.2.2.2.1 with ⟨j, hj, rfl⟩ | hnq
    · obtain ⟨n, hn, h1, hq⟩ := qah_find (t := (aT A k).1) (aT A k).2.2.2.1 j (by omega)
      subst hq
      have hwn := hD.2.2.2.2.1.2.1 n hn
      refine ⟨.int (gval (cvw (aC A)) (aT A k).2.1 ((aT A k).2.2.1 n)).2.2.2.2.1, A, hA, ?_, ?_⟩
      · intro s Q hJ hk
        obtain ⟨T, hT1, w', sc, pr, hT3, hT4⟩ := hJ.2.2.2.1 k hk3
        refine qP.of (L := [_, _, _, _]) (by omega) (hP _ rfl) ms_Desk_wonBy rfl ?_
        show qW X PR (d - 1) (some .int) cd_Desk_wonBy 0 _ _ _ _
        refine qW.blk rfl ?_
        refine qv_aload rfl ?_
        refine qv_gr ly_8 ⟨rfl, rfl, rfl⟩ (by omega) ?_
        refine qv_iload rfl ?_
        refine qv_virtE (ly_9.rcv _) sg_Chamber_treeAt rfl rfl (r_treeAt_y hP (by omega) hJ.1.2.2.2.1 h12 hk3 hT1) ?_
        refine qv_astore (L' := [_, _, _, _]) rfl ?_
        refine qv_aload rfl ?_
        refine qv_null_f (nx := 1) rfl ?_
        refine qW.blk rfl ?_
        refine qv_iload rfl ?_
        refine qv_iconst (v := 0) rfl ?_
        refine qv_aload rfl ?_
        refine qv_gh (hT3.o rfl) rfl rfl ?_
        refine qv_iconst (v := 1) rfl ?_
        refine qv_isub ?_
        refine qv_staticE sg_Desk_within rfl (r_Desk_within hP (by omega) (nI (qah (aT A k).1 n)) 0 (nI (aT A k).2.2.2.2.1 - 1) _) ?_
        refine qv_if_ne_t (bI_ne.mpr ((in_nI1 (by omega)).mpr ⟨_, hj, rfl⟩)) (tgt := 3) rfl ?_
        refine qW.blk rfl ?_
        refine qv_aload rfl ?_
        refine qv_gr ly_8 ⟨rfl, rfl, rfl⟩ (by omega) ?_
        refine qv_aload rfl ?_
        refine qv_gr ly_8 ⟨rfl, rfl, rfl⟩ (by omega) ?_
        refine qv_virt (ly_74.rcv _) sg_Hall_seat rfl rfl (w_Hall_seat hP (by omega) hJ.1 hC (fun s1 p F1 m1 v1 => ?_))
        refine qv_aload rfl ?_
        refine qv_gr ly_8 ⟨rfl, rfl, rfl⟩ (by omega) ?_
        refine qv_aload rfl ?_
        refine qv_virt (ly_74.rcv _) sg_Hall_settle rfl rfl (w_settleT hP (by omega) (m1.ok v1) hD (by rw [F1.R]; exact ⟨w', sc, pr, hT3, hT4⟩) (tdE hD) (m1.ve v1) (fun s2 F2 h2 => ?_))
        have hR2 : qR s2 = qR s := F2.R.trans F1.R
        refine qv_pop rfl ?_
        refine qv_aload rfl ?_
        refine qv_gr ly_8 ⟨rfl, rfl, rfl⟩ (by omega) ?_
        refine qv_gr ly_74 ⟨rfl, rfl, rfl⟩ (by omega) ?_
        refine qv_aload rfl ?_
        refine qv_iload rfl ?_
        refine qv_virt (hT3.rcv hR2) sg_Tree_nodeOf rfl rfl (w_nodeOf hP (by omega) hT3 hR2 hK hT4 hn h1 ?_)
        refine qv_ia (j := n) ly_79 rfl (by omega) (by decide) ((h2 n hn).2 h1).1 ?_
        refine qv_iret (rfl) ?_
        have F := F1.trans (F2.mono (lo' := 74) (hi' := 110) (by omega) (by omega))
        exact hk s2 (hJ.fr hA F (by omega)) (F.c (by omega) (by omega))
      · intro s Q hJ hk
        have J1 := hJ.thr (v := 0)
        have rv := rview_neu J1.1 hC J1.2.2.2.2.2
        refine qP.of (L := [_, _, _]) (by omega) (hP _ rfl) ms_Model_wonBy rfl ?_
        show qW X PR (d - 1) (some .int) cd_Model_wonBy 0 _ _ _ _
        refine qW.blk rfl ?_
        refine qv_aload rfl ?_
        refine qv_iconst (v := 0) rfl ?_
        refine qv_pi ly_163 ⟨rfl, rfl, rfl⟩ (rfl) ?_
        refine qv_aload rfl ?_
        refine qv_iload rfl ?_
        refine qv_iload rfl ?_
        refine qv_virt (ly_163.rcv _) sg_Model_isQuestion rfl rfl (w_M_isQ_y hP (by omega) (J1.1 3 (by decide)) h12 hk3 (J1.2.2.2.1 k hk3).2 (by omega) hj ?_) 
        refine qv_if_ne_t (by decide) (tgt := 2) rfl ?_
        refine qW.blk rfl ?_
        refine qv_aload rfl ?_
        refine qv_iload rfl ?_
        refine qv_virt (ly_163.rcv _) sg_Model_endOf rfl rfl (w_M_endOf hP (by omega) rv (by omega) hD (J1.2.2.2.1 k hk3) (fun s1 F1 g1 g2 g3 => ?_))
        obtain ⟨v, v1, v2⟩ := g3 _ hwn
        have k1 : ((aT A k).2.1 ((aT A k).2.2.1 n)).1 = 1 := (hD.2.2.2.2.1.2.2.2 n hn).1.trans h1
        have e1 : qE s1 188 ((aT A k).2.2.1 n) = (gval (cvw (aC A)) (aT A k).2.1 ((aT A k).2.2.1 n)).2.2.2.2.1 := by
          rw [show qE s1 188 ((aT A k).2.2.1 n) = v.2.2.2.2.1 from (v2.2 k1).1, v1.2.2.2]
        refine qv_pop rfl ?_
        refine qv_aload rfl ?_
        refine qv_gr ly_163 ⟨rfl, rfl, rfl⟩ (by omega) ?_
        refine qv_aload rfl ?_
        refine qv_iload rfl ?_
        refine qv_virt (ly_163.rcv _) sg_Model_nodeOf rfl rfl (w_M_nodeOf hP (by omega) hD g1 g2 hn h1 ?_)
        refine qv_ia (j := (aT A k).2.2.1 n) ly_188 rfl (by omega) (by decide) e1 ?_
        refine qv_iret (rfl) ?_
        exact hk _ (J1.fr F1.r) (((qfr.rf s).uF (by omega)).trans F1.1)
    · refine ⟨.int (-1000000001), A, hA, ?_, ?_⟩
      · intro s Q hJ hk
        obtain ⟨T, hT1, w', sc, pr, hT3, hT4⟩ := hJ.2.2.2.1 k hk3
        refine qP.of (L := [_, _, _, _]) (by omega) (hP _ rfl) ms_Desk_wonBy rfl ?_
        show qW X PR (d - 1) (some .int) cd_Desk_wonBy 0 _ _ _ _
        refine qW.blk rfl ?_
        refine qv_aload rfl ?_
        refine qv_gr ly_8 ⟨rfl, rfl, rfl⟩ (by omega) ?_
        refine qv_iload rfl ?_
        refine qv_virtE (ly_9.rcv _) sg_Chamber_treeAt rfl rfl (r_treeAt_y hP (by omega) hJ.1.2.2.2.1 h12 hk3 hT1) ?_
        refine qv_astore (L' := [_, _, _, _]) rfl ?_
        refine qv_aload rfl ?_
        refine qv_null_f (nx := 1) rfl ?_
        refine qW.blk rfl ?_
        refine qv_iload rfl ?_
        refine qv_iconst (v := 0) rfl ?_
        refine qv_aload rfl ?_
        refine qv_gh (hT3.o rfl) rfl rfl ?_
        refine qv_iconst (v := 1) rfl ?_
        refine qv_isub ?_
        refine qv_staticE sg_Desk_within rfl (r_Desk_within hP (by omega) q 0 (nI (aT A k).2.2.2.2.1 - 1) _) ?_
        refine qv_if_ne_f (fun zq => zq (bI_f (fun z => hnq ((in_nI1 (by omega)).mp z)))) (nx := 2) rfl ?_
        refine qW.blk rfl ?_
        refine qv_iconst (v := (-1000000001)) rfl ?_
        refine qv_iret (rfl) ?_
        exact hk s hJ (cfr.rf s)
      · intro s Q hJ hk
        have J1 := hJ.thr (v := 0)
        refine qP.of (L := [_, _, _]) (by omega) (hP _ rfl) ms_Model_wonBy rfl ?_
        show qW X PR (d - 1) (some .int) cd_Model_wonBy 0 _ _ _ _
        refine qW.blk rfl ?_
        refine qv_aload rfl ?_
        refine qv_iconst (v := 0) rfl ?_
        refine qv_pi ly_163 ⟨rfl, rfl, rfl⟩ (rfl) ?_
        refine qv_aload rfl ?_
        refine qv_iload rfl ?_
        refine qv_iload rfl ?_
        refine qv_virt (ly_163.rcv _) sg_Model_isQuestion rfl rfl (w_M_isQ_n hP (by omega) (J1.1 3 (by decide)) h12 hk3 (J1.2.2.2.1 k hk3).2 (by omega) hnq ?_) 
        refine qv_if_ne_f (fun z => z rfl) (nx := 1) rfl ?_
        refine qW.blk rfl ?_
        refine qv_iconst (v := (-1000000001)) rfl ?_
        refine qv_iret (rfl) ?_
        exact hk (uF s 163 0 0) hJ.thr ((qfr.rf s).uF (by omega))
  · refine ⟨.int (-1000000001), A, hA, ?_, ?_⟩
    · intro s Q hJ hk
      refine qP.of (L := [_, _, _, _]) (by omega) (hP _ rfl) ms_Desk_wonBy rfl ?_
      show qW X PR (d - 1) (some .int) cd_Desk_wonBy 0 _ _ _ _
      refine qW.blk rfl ?_
      refine qv_aload rfl ?_
      refine qv_gr ly_8 ⟨rfl, rfl, rfl⟩ (by omega) ?_
      refine qv_iload rfl ?_
      refine qv_virtE (ly_9.rcv _) sg_Chamber_treeAt rfl rfl (r_treeAt_n hP (by omega) hJ.1.2.2.2.1 h12 hn) ?_
      refine qv_astoreN (L' := [_, _, _, _]) rfl ?_
      refine qv_aloadN rfl ?_
      refine qv_null_t (tgt := 2) rfl ?_
      refine qW.blk rfl ?_
      refine qv_iconst (v := (-1000000001)) rfl ?_
      refine qv_iret (rfl) ?_
      exact hk s hJ (cfr.rf s)
    · intro s Q hJ hk
      have J1 := hJ.thr (v := 0)
      refine qP.of (L := [_, _, _]) (by omega) (hP _ rfl) ms_Model_wonBy rfl ?_
      show qW X PR (d - 1) (some .int) cd_Model_wonBy 0 _ _ _ _
      refine qW.blk rfl ?_
      refine qv_aload rfl ?_
      refine qv_iconst (v := 0) rfl ?_
      refine qv_pi ly_163 ⟨rfl, rfl, rfl⟩ (rfl) ?_
      refine qv_aload rfl ?_
      refine qv_iload rfl ?_
      refine qv_iload rfl ?_
      refine qv_virt (ly_163.rcv _) sg_Model_isQuestion rfl rfl (w_M_isQ_t hP (by omega) (J1.1 3 (by decide)) h12 hn ?_) 
      refine qv_if_ne_f (fun z => z rfl) (nx := 1) rfl ?_
      refine qW.blk rfl ?_
      refine qv_iconst (v := (-1000000001)) rfl ?_
      refine qv_iret (rfl) ?_
      exact hk (uF s 163 0 0) hJ.thr ((qfr.rf s).uF (by omega))
end
