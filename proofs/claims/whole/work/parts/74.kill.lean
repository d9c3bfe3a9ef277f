/-! killers, shields are alike -/
/-- the bits of those below n for which P holds -/
def bsN (P : Nat → Prop) [∀ x, Decidable (P x)] : Nat → Nat
  | 0 => 0
  | n + 1 => if P n then bsN P n + 2 ^ n else bsN P n
theorem bsN_lt {P : Nat → Prop} [∀ x, Decidable (P x)] : ∀ n, bsN P n < 2 ^ n := by
  intro n
  induction n with
  | zero => exact Nat.one_pos
  | succ n ih =>
    have e : 2 ^ (n + 1) = 2 ^ n + 2 ^ n := by rw [Nat.pow_succ]; omega
    unfold bsN
    split <;> omega
theorem or_bit : ∀ n, n < 8 → ∀ b, b < 128 → b < 2 ^ n → nI b ||| (1 <<< (nI n &&& 31)) = nI (b + 2 ^ n) := by decide +kernel
theorem btn_add0 : ∀ n, n < 8 → ∀ b, b < 128 → b < 2 ^ n → (List.range 8).all (fun x => decide (btn (b + 2 ^ n) x) == (decide (x = n) || decide (btn b x))) = true := by decide +kernel
theorem btn_add (n : Nat) (hn : n < 8) (b : Nat) (hb : b < 128) (hb2 : b < 2 ^ n) (x : Nat) (hx : x < 8) : btn (b + 2 ^ n) x ↔ (x = n ∨ btn b x) := by
  have := List.all_eq_true.mp (btn_add0 n hn b hb hb2) x (List.mem_range.mpr hx)
  have t := beq_iff_eq.mp this
  rw [← Bool.decide_or, decide_eq_decide] at t
  exact t
theorem two_lt {n : Nat} (h : n < 8) : 2 ^ n ≤ 128 := by
  rcases (show n = 0 ∨ n = 1 ∨ n = 2 ∨ n = 3 ∨ n = 4 ∨ n = 5 ∨ n = 6 ∨ n = 7 by omega) with rfl | rfl | rfl | rfl | rfl | rfl | rfl | rfl <;> decide
theorem bsN_or {P : Nat → Prop} [∀ x, Decidable (P x)] {n : Nat} (h : n < 8) : (P n → nI (bsN P n) ||| (1 <<< (nI n &&& 31)) = nI (bsN P (n + 1))) ∧ (¬ P n → bsN P n = bsN P (n + 1)) := by
  refine ⟨fun hp => ?_, fun hp => ?_⟩
  · have h1 := bsN_lt (P := P) n
    have h2 := two_lt h
    rw [or_bit n h _ (by omega) h1]
    show _ = nI (if P n then bsN P n + 2 ^ n else bsN P n)
    rw [if_pos hp]
  · show bsN P n = (if P n then bsN P n + 2 ^ n else bsN P n)
    rw [if_neg hp]
theorem bsN_bit {P : Nat → Prop} [∀ x, Decidable (P x)] {x : Nat} (hx : x < 8) : ∀ n, n < 8 → (btn (bsN P n) x ↔ (x < n ∧ P x)) := by
  intro n
  induction n with
  | zero => intro _; simp [bsN, btn]
  | succ n ih =>
    intro hn
    have h1 := bsN_lt (P := P) n
    have h2 := two_lt (n := n) (by omega)
    have ih' := ih (by omega)
    unfold bsN
    by_cases hp : P n
    · rw [if_pos hp, btn_add n (by omega) _ (by omega) h1 x hx, ih']
      constructor
      · rintro (rfl | ⟨h, h'⟩)
        · exact ⟨by omega, hp⟩
        · exact ⟨by omega, h'⟩
      · rintro ⟨h, h'⟩
        by_cases e : x = n
        · exact Or.inl e
        · exact Or.inr ⟨by omega, h'⟩
    · rw [if_neg hp, ih']
      constructor
      · rintro ⟨h, h'⟩; exact ⟨by omega, h'⟩
      · rintro ⟨h, h'⟩
        refine ⟨?_, h'⟩
        rcases Nat.lt_or_ge x n with q | q
        · exact q
        · rw [show x = n by omega] at h'; exact absurd h' hp
theorem or_zero32 (x : Int32) : x ||| 0 = x := Int32.or_zero
/-- a tree with a question with an END put on top -/
def tadd (t : TR) (n x : Nat) : TR := fun j => if j = n then (0, 0, 0, x, 0) else if j = n + 1 then (1, n - 1, n, 99, 0) else t j
theorem tadd_ok {t : TR} {n x : Nat} (h : tr_ok t n) (hn : 0 < n) (hx : x < 7) : tr_ok (tadd t n x) (n + 2) := by
  intro j hj
  unfold tadd
  by_cases e : j = n
  · rw [if_pos e]
    exact ⟨(by show 0 ≤ 2; omega), fun _ => hx, fun z => absurd rfl z, fun z => (by cases z)⟩
  · rw [if_neg e]
    by_cases e2 : j = n + 1
    · rw [if_pos e2]
      exact ⟨(by show 1 ≤ 2; omega), fun z => (by cases z), fun _ => ⟨(by show n - 1 < j; omega), (by show n < j; omega)⟩, fun z => (by cases z)⟩
    · rw [if_neg e2]
      exact h j (by omega)
theorem gval_agree {W : VW} {t u : TR} {K : Nat} (h : ∀ n, n < K → u n = t n) (ht : tr_ok t K) : ∀ n, n < K → gval W u n = gval W t n := by
  have hu : tr_ok u K := fun n hn => by rw [h n hn]; exact ht n hn
  intro n
  induction n using Nat.strongRecOn with
  | _ n ih =>
    intro hn
    obtain ⟨t1, t2, t3, t4⟩ := ht n hn
    have e := h n hn
    rcases (show (t n).1 = 0 ∨ (t n).1 = 1 ∨ (t n).1 = 2 by omega) with h0 | h0 | h0
    · rw [gval_0 h0, gval_0 (by rw [e]; exact h0), e]
    · obtain ⟨l1, l2⟩ := t3 (by omega)
      rw [gval_1 ht hn h0, gval_1 hu hn (by rw [e]; exact h0), e, ih _ l1 (by omega), ih _ l2 (by omega)]
    · obtain ⟨l1, l2⟩ := t3 (by omega)
      rw [gval_2 ht hn h0, gval_2 hu hn (by rw [e]; exact h0), e, ih _ l1 (by omega), ih _ l2 (by omega)]
theorem tadd_val {W : VW} {t : TR} {n x : Nat} (h : tr_ok t n) (hn : 0 < n) (hx : x < 7) : gval W (tadd t n x) (n + 1) = gq W (gval W t (n - 1)) (nv_leaf x) := by
  have ok := tadd_ok h hn hx
  have e1 : tadd t n x (n + 1) = (1, n - 1, n, 99, 0) := by unfold tadd; rw [if_neg (by omega), if_pos rfl]
  have e0 : tadd t n x n = (0, 0, 0, x, 0) := by unfold tadd; rw [if_pos rfl]
  rw [gval_1 ok (by omega) (by rw [e1]), e1]
  show gq W (gval W (tadd t n x) (n - 1)) (gval W (tadd t n x) n) = _
  rw [gval_0 (n := n) (by rw [e0]), e0]
  rw [gval_agree (t := t) (u := tadd t n x) (K := n) (fun j hj => by unfold tadd; rw [if_neg (by omega), if_neg (by omega)]) h (n - 1) (by omega)]
section
variable {X : pm_X} {PR : pm_P} {s : QST} {Q : QPost}
theorem w_M_add (hP : pm_np PR) {d : Nat} (hd : 1 ≤ d) {n : Nat} {k l r x y : Int32} (hn : qF s 163 15 = nI n) (hn2 : n < 110) (hk : Q (some (.int (nI n))) (uF (uE (uE (uE (uE (uE s 173 n k) 174 n l) 175 n r) 176 n x) 177 n y) 163 15 (nI (n + 1)))) : qP X PR d 184 [.ref 163, .int k, .int l, .int r, .int x, .int y] s Q := by
  refine qP.of (L := [_, _, _, _, _, _]) (by omega) (hP _ rfl) ms_Model_add rfl ?_
  show qW X PR (d - 1) (some .int) cd_Model_add 0 _ _ _ _
  refine qW.blk rfl ?_
  refine qv_aload rfl ?_
  refine qv_gr ly_163 ⟨rfl, rfl, rfl⟩ (by omega) ?_
  refine qv_aload rfl ?_
  refine qv_gi ly_163 ⟨rfl, rfl, rfl⟩ (hn) ?_
  refine qv_iload rfl ?_
  refine qv_is ly_173 rfl (by omega) (by decide) ?_
  refine qv_aload rfl ?_
  refine qv_gr ly_163 ⟨rfl, rfl, rfl⟩ (by omega) ?_
  refine qv_aload rfl ?_
  refine qv_gi ly_163 ⟨rfl, rfl, rfl⟩ (hn) ?_
  refine qv_iload rfl ?_
  refine qv_is ly_174 rfl (by omega) (by decide) ?_
  refine qv_aload rfl ?_
  refine qv_gr ly_163 ⟨rfl, rfl, rfl⟩ (by omega) ?_
  refine qv_aload rfl ?_
  refine qv_gi ly_163 ⟨rfl, rfl, rfl⟩ (hn) ?_
  refine qv_iload rfl ?_
  refine qv_is ly_175 rfl (by omega) (by decide) ?_
  refine qv_aload rfl ?_
  refine qv_gr ly_163 ⟨rfl, rfl, rfl⟩ (by omega) ?_
  refine qv_aload rfl ?_
  refine qv_gi ly_163 ⟨rfl, rfl, rfl⟩ (hn) ?_
  refine qv_iload rfl ?_
  refine qv_is ly_176 rfl (by omega) (by decide) ?_
  refine qv_aload rfl ?_
  refine qv_gr ly_163 ⟨rfl, rfl, rfl⟩ (by omega) ?_
  refine qv_aload rfl ?_
  refine qv_gi ly_163 ⟨rfl, rfl, rfl⟩ (hn) ?_
  refine qv_iload rfl ?_
  refine qv_is ly_177 rfl (by omega) (by decide) ?_
  refine qv_aload rfl ?_
  refine qv_dup rfl ?_
  refine qv_gi ly_163 ⟨rfl, rfl, rfl⟩ (hn) ?_
  refine qv_iconst (v := 1) rfl ?_
  refine qv_iaddN (q := 1) rfl rfl ?_
  refine qv_pi ly_163 ⟨rfl, rfl, rfl⟩ (rfl) ?_
  refine qv_aload rfl ?_
  refine qv_gi ly_163 ⟨rfl, rfl, rfl⟩ (qF_uFs) ?_
  refine qv_iconst (v := 1) rfl ?_
  refine qv_isubN (q := 1) rfl rfl (by omega) ?_
  refine qv_iret (rfl) ?_
  exact hk
theorem w_M_against (hP : pm_np PR) {d : Nat} (hd : 2 ≤ d) {n x : Nat} (hn : qF s 163 15 = nI n) (hn0 : 0 < n) (hn2 : n + 2 ≤ 110) (hx : x < 7) (hk : ∀ s', efr s s' → qF s' 163 15 = nI (n + 2) → (∀ t, tr_at (fun k => qE s (164 + k)) t n → tr_at (fun k => qE s' (164 + k)) (tadd t n x) (n + 2)) → Q none s') : qP X PR d 230 [.ref 163, .int (nI x)] s Q := by
  refine qP.of (L := [_, _, _]) (by omega) (hP _ rfl) ms_Model_against rfl ?_
  show qW X PR (d - 1) (none) cd_Model_against 0 _ _ _ _
  refine qW.blk rfl ?_
  refine qv_aload rfl ?_
  refine qv_gi ly_163 ⟨rfl, rfl, rfl⟩ (hn) ?_
  refine qv_iconst (v := 1) rfl ?_
  refine qv_isubN (q := 1) rfl rfl (by omega) ?_
  refine qv_istore (L' := [_, _, _]) rfl ?_
  refine qv_aload rfl ?_
  refine qv_iconst (v := 0) rfl ?_
  refine qv_iconst (v := (-1)) rfl ?_
  refine qv_iconst (v := (-1)) rfl ?_
  refine qv_iload rfl ?_
  refine qv_iconst (v := 0) rfl ?_
  refine qv_virt (ly_163.rcv _) sg_Model_add rfl rfl (w_M_add hP (by omega) hn (by omega) ?_) 
  refine qv_pop rfl ?_
  refine qv_aload rfl ?_
  refine qv_iconst (v := 1) rfl ?_
  refine qv_iload rfl ?_
  refine qv_iload rfl ?_
  refine qv_iconst (v := 1) rfl ?_
  refine qv_iaddN (q := 1) rfl rfl ?_
  refine qv_iconst (v := 99) rfl ?_
  refine qv_iconst (v := 0) rfl ?_
  refine qv_virt (ly_163.rcv _) sg_Model_add rfl rfl (w_M_add hP (by omega) qF_uFs (by omega) ?_) 
  refine qv_pop rfl ?_
  refine qv_ret rfl ?_
  refine hk _ ?_ (by rw [qF_uFs]) (fun t ht => ?_)
  · refine ⟨((((((((((((qfr.rf s).uE (by omega)).uE (by omega)).uE (by omega)).uE (by omega)).uE (by omega)).uF (by omega)).uE (by omega)).uE (by omega)).uE (by omega)).uE (by omega)).uE (by omega)).uF (by omega), fun c h1 h2 => ?_, fun _ => rfl, fun k hk => ?_⟩
    · rw [qE_uF, qE_uEc (by omega), qE_uEc (by omega), qE_uEc (by omega), qE_uEc (by omega), qE_uEc (by omega), qE_uF, qE_uEc (by omega), qE_uEc (by omega), qE_uEc (by omega), qE_uEc (by omega), qE_uEc (by omega)]
    · rw [qF_uFk hk]
      show qF (uF _ 163 15 (nI (n + 1))) 163 k = _
      rw [qF_uFk hk]
      rfl
  · intro j hj
    have o : ∀ c, 173 ≤ c → c ≤ 177 → j < n → qE (uF (uE (uE (uE (uE (uE (uF (uE (uE (uE (uE (uE s 173 n 0) 174 n (-1)) 175 n (-1)) 176 n (nI x)) 177 n 0) 163 15 (nI (n + 1))) 173 (n + 1) 1) 174 (n + 1) (nI (n - 1))) 175 (n + 1) (nI (n - 1 + 1))) 176 (n + 1) 99) 177 (n + 1) 0) 163 15 (nI (n + 1 + 1))) c j = qE s c j := by
      intro c c1 c2 hjn
      rw [qE_uF, qE_uE, if_neg (by omega), qE_uE, if_neg (by omega), qE_uE, if_neg (by omega), qE_uE, if_neg (by omega), qE_uE, if_neg (by omega), qE_uF, qE_uE, if_neg (by omega), qE_uE, if_neg (by omega), qE_uE, if_neg (by omega), qE_uE, if_neg (by omega), qE_uE, if_neg (by omega)]
    unfold tadd
    by_cases e : j = n
    · subst e
      rw [if_pos rfl]
      refine ⟨?_, fun z => absurd rfl z, fun _ => ?_, fun z => by cases z⟩
      · show qE _ 173 j = nI 0
        rw [qE_uF, qE_uE, if_neg (by omega), qE_uE, if_neg (by omega), qE_uE, if_neg (by omega), qE_uE, if_neg (by omega), qE_uE, if_neg (by omega), qE_uF, qE_uE, if_neg (by omega), qE_uE, if_neg (by omega), qE_uE, if_neg (by omega), qE_uE, if_neg (by omega), qE_uEs]
        rfl
      · show qE _ 176 j = nI x
        rw [qE_uF, qE_uE, if_neg (by omega), qE_uE, if_neg (by omega), qE_uE, if_neg (by omega), qE_uE, if_neg (by omega), qE_uE, if_neg (by omega), qE_uF, qE_uE, if_neg (by omega), qE_uEs]
    · rw [if_neg e]
      by_cases e2 : j = n + 1
      · subst e2
        rw [if_pos rfl]
        refine ⟨?_, fun z => ⟨?_, ?_⟩, fun _ => ?_, fun z => by cases z⟩
        · show qE _ 173 (n + 1) = nI 1
          rw [qE_uF, qE_uE, if_neg (by omega), qE_uE, if_neg (by omega), qE_uE, if_neg (by omega), qE_uE, if_neg (by omega), qE_uEs]
          rfl
        · show qE _ 174 (n + 1) = nI (n - 1)
          rw [qE_uF, qE_uE, if_neg (by omega), qE_uE, if_neg (by omega), qE_uE, if_neg (by omega), qE_uEs]
        · show qE _ 175 (n + 1) = nI n
          rw [qE_uF, qE_uE, if_neg (by omega), qE_uE, if_neg (by omega), qE_uEs, show n - 1 + 1 = n by omega]
        · show qE _ 176 (n + 1) = nI 99
          rw [qE_uF, qE_uE, if_neg (by omega), qE_uEs]
          rfl
      · rw [if_neg e2]
        obtain ⟨a1, a2, a3, a4⟩ := ht j (by omega)
        exact ⟨(o 173 (by omega) (by omega) (by omega)).trans a1, fun z => ⟨(o 174 (by omega) (by omega) (by omega)).trans (a2 z).1, (o 175 (by omega) (by omega) (by omega)).trans (a2 z).2⟩, fun z => (o 176 (by omega) (by omega) (by omega)).trans (a3 z), fun z => (o 177 (by omega) (by omega) (by omega)).trans (a4 z)⟩
/-- whether an END kills a tree (by a view) -/
def kil (W : VW) (g : NV) (x : Nat) : Prop := ¬ (gq W g (nv_leaf x)).2.1 = g.2.1
theorem gq_lt {W : VW} {A B : NV} (hA : A.2.1 < 7) (hB : B.2.1 < 7) : (gq W A B).2.1 < 7 := by
  show (if _ then _ else _) < 7
  split
  · exact hA
  · exact hB
theorem w_M_isKiller (hP : pm_np PR) {d : Nat} (hd : 11 ≤ d) {N : Nat} {W : VW} (hv : rview s N W) (hu : ∀ m, m < gN W → gK W m = 2 → gU W m < 6) {tt x : Nat} (htt : tt < 12) (hx : x < 7) {D : TD} (hD : tdOK D) (hT : rTD s tt D) (hk : ∀ s', efr s s' → Q (some (.int (if (gq W (gval W D.2.1 (D.2.2.2.1 - 1)) (nv_leaf x)).2.1 = (gval W D.2.1 (D.2.2.2.1 - 1)).2.1 then 0 else 1))) s') : qP X PR d 229 [.ref 163, .int (nI tt), .int (nI x)] s Q := by
  have hK0 := hD.1
  have hK := hD.2.1
  have hg := gval_lt hD hu
  have e : gval W (tadd D.2.1 D.2.2.2.1 x) (D.2.2.2.1 + 2 - 1) = gq W (gval W D.2.1 (D.2.2.2.1 - 1)) (nv_leaf x) := tadd_val hD.2.2.2.1 hK0 hx
  have hq := gq_lt (W := W) (A := gval W D.2.1 (D.2.2.2.1 - 1)) (B := nv_leaf x) hg.1 hx
  refine qP.of (L := [_, _, _, _]) (by omega) (hP _ rfl) ms_Model_isKiller rfl ?_
  show qW X PR (d - 1) (some .boolean) cd_Model_isKiller 0 _ _ _ _
  by_cases h : (gq W (gval W D.2.1 (D.2.2.2.1 - 1)) (nv_leaf x)).2.1 = (gval W D.2.1 (D.2.2.2.1 - 1)).2.1
  · rw [if_pos h] at hk
    refine qW.blk rfl ?_
    refine qv_aload rfl ?_
    refine qv_iload rfl ?_
    refine qv_virt (ly_163.rcv _) sg_Model_endOf rfl rfl (w_M_endOf hP (by omega) hv htt hD hT (fun s1 F1 g1 g2 g3 => ?_)) 
    refine qv_istore (L' := [_, _, _, _]) rfl ?_
    refine qv_aload rfl ?_
    refine qv_iload rfl ?_
    refine qv_virt (ly_163.rcv _) sg_Model_against rfl rfl (w_M_against hP (by omega) g1 hK0 (by omega) hx (fun s2 F2 k1 k2 => ?_)) 
    refine qv_aload rfl ?_
    refine qv_virt (ly_163.rcv _) sg_Model_settle rfl rfl (w_M_settle hP (by omega) ((hv.e F1).e F2) (by omega) (by omega) k1 (tadd_ok hD.2.2.2.1 hK0 hx) (k2 _ g2) (fun s3 F3 _ _ _ => ?_)) 
    refine qv_iload rfl ?_
    refine qv_icmp_eq_t (by rw [e, h]) (tgt := 2) rfl ?_
    refine qW.blk rfl ?_
    refine qv_iconst (v := 0) rfl ?_
    refine qv_nil (nx := 3) rfl ?_
    refine qW.blk rfl ?_
    refine qv_iret (by first | exact bI_ret | rfl) ?_
    exact hk s3 ((F1.trans F2).trans F3)
  · rw [if_neg h] at hk
    refine qW.blk rfl ?_
    refine qv_aload rfl ?_
    refine qv_iload rfl ?_
    refine qv_virt (ly_163.rcv _) sg_Model_endOf rfl rfl (w_M_endOf hP (by omega) hv htt hD hT (fun s1 F1 g1 g2 g3 => ?_)) 
    refine qv_istore (L' := [_, _, _, _]) rfl ?_
    refine qv_aload rfl ?_
    refine qv_iload rfl ?_
    refine qv_virt (ly_163.rcv _) sg_Model_against rfl rfl (w_M_against hP (by omega) g1 hK0 (by omega) hx (fun s2 F2 k1 k2 => ?_)) 
    refine qv_aload rfl ?_
    refine qv_virt (ly_163.rcv _) sg_Model_settle rfl rfl (w_M_settle hP (by omega) ((hv.e F1).e F2) (by omega) (by omega) k1 (tadd_ok hD.2.2.2.1 hK0 hx) (k2 _ g2) (fun s3 F3 _ _ _ => ?_)) 
    refine qv_iload rfl ?_
    refine qv_icmp_eq_f (fun z => h (by rw [e] at z; exact (nI_eq (by omega) (by omega)).mp z)) (nx := 1) rfl ?_
    refine qW.blk rfl ?_
    refine qv_iconst (v := 1) rfl ?_
    refine qv_goto (tgt := 3) rfl ?_
    refine qW.blk rfl ?_
    refine qv_iret (by first | exact bI_ret | rfl) ?_
    exact hk s3 ((F1.trans F2).trans F3)
theorem w_putAgainst (hP : pm_np PR) {d : Nat} (hd : 5 ≤ d) {N p part free x : Nat} (hh : hok s N p) {v : NV} (hv : hnd s p part v) (h1 : part < free) (h2 : free + 1 < 64) (hx : x < 7) (hk : ∀ s', qfr 76 82 s s' → (∀ A v, A ≠ free → A ≠ free + 1 → hnd s p A v → hnd s' p A v) → hnd s' p (free + 1) (gq (hvw s N) v (nv_leaf x)) → Q (some (.int (nI (free + 1)))) s') : qP X PR d 30 [.ref 74, .int (nI part), .int (nI free), .int (nI x)] s Q := by
  refine qP.of (L := [_, _, _, _]) (by omega) (hP _ rfl) ms_Hall_putAgainst rfl ?_
  show qW X PR (d - 1) (some .int) cd_Hall_putAgainst 0 _ _ _ _
  refine qW.blk rfl ?_
  refine qv_aload rfl ?_
  refine qv_iload rfl ?_
  refine qv_iload rfl ?_
  refine qv_virt (ly_74.rcv _) sg_Hall_settleEnd rfl rfl (w_Hall_settleEnd hP (by omega) hh.2.2.1 hh.2.2.2.1 (by omega) hx (fun s1 F1 H1 l1 => ?_)) 
  refine qv_aload rfl ?_
  refine qv_iload rfl ?_
  refine qv_iconst (v := 1) rfl ?_
  refine qv_iaddN (q := 1) rfl rfl ?_
  refine qv_iload rfl ?_
  refine qv_iload rfl ?_
  refine qv_virt (ly_74.rcv _) sg_Hall_settleQuestion rfl rfl (w_Hall_settleQuestion hP (by omega) (hh.cg F1 (by omega) (by omega)) (by omega) (H1.nd (by omega) hv) l1 (by omega) (by omega) (fun s2 F2 H2 q1 q2 q3 => ?_)) 
  refine qv_iload rfl ?_
  refine qv_iconst (v := 1) rfl ?_
  refine qv_iaddN (q := 1) rfl rfl ?_
  refine qv_iret (rfl) ?_
  rw [hvw_cg F1 (by omega) (by omega)] at q1
  exact hk s2 ((F1.mono (by omega) (by omega)).trans F2) (fun A u a1 a2 a3 => H2.nd a2 (H1.nd a1 a3)) q1
theorem w_killerBits (hP : pm_np PR) {d : Nat} (hd : 6 ≤ d) {N p K E : Nat} (hh : hok s N p) (hE : E ≤ 7) {W : VW} (hW : veq (fun x => x < 7) (hvw s N) W) {g : NV} (hg : hnd s p 0 g) (hgD : nvD (fun x => x < 7) g) (hK0 : 0 < K) (hK : K ≤ 60) [hdec : ∀ x, Decidable (kil W g x)] (hk : ∀ s', qfr 76 82 s s' → hnd s' p 0 g → Q (some (.int (nI (bsN (kil W g) E)))) s') : qP X PR d 29 [.ref 74, .int (nI K), .int (nI E)] s Q := by
  refine qP.of (L := [_, _, _, _, _]) (by omega) (hP _ rfl) ms_Hall_killerBits rfl ?_
  show qW X PR (d - 1) (some .int) cd_Hall_killerBits 0 _ _ _ _
  have loop : ∀ (k x : Nat) (s1 : QST), x + k = E → qfr 76 82 s s1 → hnd s1 p 0 g → qW X PR (d - 1) (some .int) cd_Hall_killerBits 1 [some (.ref (74)), some (.int (nI K)), some (.int (nI E)), some (.int (nI (bsN (kil W g) x))), some (.int (nI x))] [] s1 Q := by
    intro k
    induction k with
    | zero =>
      intro x s1 hx F1 h1
      have e : x = E := by omega
      subst e
      refine qW.blk rfl ?_
      refine qv_iload rfl ?_
      refine qv_iload rfl ?_
      refine qv_icmp_geNt rfl rfl (by omega) (by omega) (by omega) (tgt := 5) rfl ?_
      refine qW.blk rfl ?_
      refine qv_iload rfl ?_
      refine qv_iret (rfl) ?_
      exact hk s1 F1 h1
    | succ k ih =>
      intro x s1 hx F1 h1
      have eh : hok s1 N p := hh.cg F1 (by omega) (by omega)
      have ew : hvw s1 N = hvw s N := hvw_cg F1 (by omega) (by omega) N
      have hq : (gq (hvw s N) g (nv_leaf x)).2.1 = (gq W g (nv_leaf x)).2.1 := (hW.q hh.u hgD (leaf_D (show x < 7 by omega)) (nve.rf _) (nve.rf _)).2.1
      have nx : ∀ s2 v, qfr 76 82 s1 s2 → hnd s2 p 0 g → v = bsN (kil W g) (x + 1) → qW X PR (d - 1) (some .int) cd_Hall_killerBits 4 [some (.ref (74)), some (.int (nI K)), some (.int (nI E)), some (.int (nI v)), some (.int (nI x))] [] s2 Q := by
        intro s2 v F2 h2 hv
        subst hv
        refine qW.blk rfl ?_
        refine qv_iinc (L' := [_, _, _, _, _]) rfl (nI_succ _).symm rfl ?_
        refine qv_goto (tgt := 1) rfl ?_
        exact ih (x + 1) s2 (by omega) (F1.trans F2) h2
      have hb := bsN_or (P := kil W g) (n := x) (by omega)
      by_cases h : kil W g x
      · have hne : ¬ nI (gq W g (nv_leaf x)).2.1 = nI g.2.1 := fun z => h ((nI_eq (by have := gq_lt (W := W) (A := g) (B := nv_leaf x) hgD.2.1 (show x < 7 by omega); omega) (by have := hgD.2.1; omega)).mp z)
        refine qW.blk rfl ?_
        refine qv_iload rfl ?_
        refine qv_iload rfl ?_
        refine qv_icmp_geNf rfl rfl (by omega) (by omega) (by omega) (nx := 2) rfl ?_
        refine qW.blk rfl ?_
        refine qv_aload rfl ?_
        refine qv_gr ly_74 ⟨rfl, rfl, rfl⟩ (by omega) ?_
        refine qv_aload rfl ?_
        refine qv_iconst (v := 0) rfl ?_
        refine qv_iload rfl ?_
        refine qv_iload rfl ?_
        refine qv_virt (ly_74.rcv _) sg_Hall_putAgainst rfl rfl (w_putAgainst hP (by omega) eh (part := 0) h1 (by omega) (by omega) (by omega) (fun s2 F2 g2 g3 => ?_))
        have c1 := g3.2.2.2.1
        rw [ew, hq] at c1
        have h2 := g2 0 g (by omega) (by omega) h1
        refine qv_ia (j := K + 1) ly_77 rfl (by omega) (by decide) c1 ?_
        refine qv_aload rfl ?_
        refine qv_gr ly_74 ⟨rfl, rfl, rfl⟩ (by omega) ?_
        refine qv_iconst (v := 0) rfl ?_
        refine qv_ia (j := 0) ly_77 rfl (by omega) (by decide) h2.2.2.2.1 ?_
        refine qv_icmp_eq_f hne (nx := 3) rfl ?_
        have b3 : qW X PR (d - 1) (some .int) cd_Hall_killerBits 3 [some (.ref (74)), some (.int (nI K)), some (.int (nI E)), some (.int (nI (bsN (kil W g) x))), some (.int (nI x))] [] s2 Q := by
          refine qW.blk rfl ?_
          refine qv_iload rfl ?_
          refine qv_iconst (v := 1) rfl ?_
          refine qv_iload rfl ?_
          refine qv_ishl ?_
          refine qv_ior ?_
          refine qv_top (hb.1 h) ?_
          refine qv_istore (L' := [_, _, _, _, _]) rfl ?_
          refine qv_nil (nx := 4) rfl ?_
          exact nx s2 _ F2 h2 rfl
        exact b3
      · have hne : nI (gq W g (nv_leaf x)).2.1 = nI g.2.1 := congrArg nI (Classical.byContradiction h)
        refine qW.blk rfl ?_
        refine qv_iload rfl ?_
        refine qv_iload rfl ?_
        refine qv_icmp_geNf rfl rfl (by omega) (by omega) (by omega) (nx := 2) rfl ?_
        refine qW.blk rfl ?_
        refine qv_aload rfl ?_
        refine qv_gr ly_74 ⟨rfl, rfl, rfl⟩ (by omega) ?_
        refine qv_aload rfl ?_
        refine qv_iconst (v := 0) rfl ?_
        refine qv_iload rfl ?_
        refine qv_iload rfl ?_
        refine qv_virt (ly_74.rcv _) sg_Hall_putAgainst rfl rfl (w_putAgainst hP (by omega) eh (part := 0) h1 (by omega) (by omega) (by omega) (fun s2 F2 g2 g3 => ?_))
        have c1 := g3.2.2.2.1
        rw [ew, hq] at c1
        have h2 := g2 0 g (by omega) (by omega) h1
        refine qv_ia (j := K + 1) ly_77 rfl (by omega) (by decide) c1 ?_
        refine qv_aload rfl ?_
        refine qv_gr ly_74 ⟨rfl, rfl, rfl⟩ (by omega) ?_
        refine qv_iconst (v := 0) rfl ?_
        refine qv_ia (j := 0) ly_77 rfl (by omega) (by decide) h2.2.2.2.1 ?_
        refine qv_icmp_eq_t hne (tgt := 4) rfl ?_
        exact nx s2 _ F2 h2 (hb.2 h)
  refine qW.blk rfl ?_
  refine qv_iconst (v := 0) rfl ?_
  refine qv_istore (L' := [_, _, _, _, _]) rfl ?_
  refine qv_iconst (v := 0) rfl ?_
  refine qv_istore (L' := [_, _, _, _, _]) rfl ?_
  refine qv_nil (nx := 1) rfl ?_
  exact loop E 0 s (by omega) (qfr.rf s) hg
end
section
variable {X : pm_X} {PR : pm_P}
theorem Sim_killers (hP : pm_np PR) (t : Int32) : Sim X PR 140 228 [.int t] := by
  intro d A hd hA
  have hC := hA.1
  have h12 := hC.2.2.2.2.1
  have hE7 := hC.2.1
  rcases pl_of t (aC A 3) with ⟨k, hk3, rfl⟩ | hn
  · have hD := hA.2.2.2.1 k hk3
    have hK0 := hD.1
    have hK := hD.2.1
    obtain ⟨g, hg⟩ : ∃ g, gval (cvw (aC A)) (aT A k).2.1 ((aT A k).2.2.2.1 - 1) = g := ⟨_, rfl⟩
    have hgl := gval_lt hD (cvw_ok5 hC).u
    obtain ⟨hdec⟩ : Nonempty (∀ x, Decidable (kil (cvw (aC A)) g x)) := ⟨fun x => Classical.propDecidable _⟩
    refine ⟨.int (nI (bsN (kil (cvw (aC A)) g) (aC A 0))), A, hA, ?_, ?_⟩
    · intro s Q hJ hk
      obtain ⟨T, hT1, w', sc, pr, hT3, hT4⟩ := hJ.2.2.2.1 k hk3
      refine qP.of (L := [_, _, _]) (by omega) (hP _ rfl) ms_Desk_killers rfl ?_
      show qW X PR (d - 1) (some .int) cd_Desk_killers 0 _ _ _ _
      refine qW.blk rfl ?_
      refine qv_aload rfl ?_
      refine qv_gr ly_8 ⟨rfl, rfl, rfl⟩ (by omega) ?_
      refine qv_iload rfl ?_
      refine qv_virtE (ly_9.rcv _) sg_Chamber_treeAt rfl rfl (r_treeAt_y hP (by omega) hJ.1.2.2.2.1 h12 hk3 hT1) ?_
      refine qv_astore (L' := [_, _, _]) rfl ?_
      refine qv_aload rfl ?_
      refine qv_nonnull_t (tgt := 2) rfl ?_
      refine qW.blk rfl ?_
      refine qv_aload rfl ?_
      refine qv_gr ly_8 ⟨rfl, rfl, rfl⟩ (by omega) ?_
      refine qv_aload rfl ?_
      refine qv_gr ly_8 ⟨rfl, rfl, rfl⟩ (by omega) ?_
      refine qv_virt (ly_74.rcv _) sg_Hall_seat rfl rfl (w_Hall_seat hP (by omega) hJ.1 hC (fun s1 p F1 m1 v1 => ?_))
      refine qv_aload rfl ?_
      refine qv_gr ly_8 ⟨rfl, rfl, rfl⟩ (by omega) ?_
      refine qv_aload rfl ?_
      refine qv_virt (ly_74.rcv _) sg_Hall_settle rfl rfl (w_settleT hP (by omega) (m1.ok v1) hD (by rw [F1.R]; exact ⟨w', sc, pr, hT3, hT4⟩) (tdE hD) (m1.ve v1) (fun s2 F2 h2 => ?_))
      have hR2 : qR s2 = qR s := F2.R.trans F1.R
      have F := F1.trans (F2.mono (lo' := 74) (hi' := 110) (by omega) (by omega))
      have h0 := (h2 0 hK0).1
      rw [hD.2.2.2.2.1.1, hg] at h0
      have hnd := (ceq_of hD (tdE hD) (m1.ve v1) (m1.ok v1).u).2 0 hK0
      rw [hD.2.2.2.2.1.1, hg] at hnd
      refine qv_pop rfl ?_
      refine qv_aload rfl ?_
      refine qv_gr ly_8 ⟨rfl, rfl, rfl⟩ (by omega) ?_
      refine qv_aload rfl ?_
      refine qv_gh (hT3.o hR2) rfl rfl ?_
      refine qv_aload rfl ?_
      refine qv_gr ly_8 ⟨rfl, rfl, rfl⟩ (by omega) ?_
      refine qv_gi ly_9 ⟨rfl, rfl, rfl⟩ ((F.f (by omega)).trans hJ.1.1) ?_
      refine qv_virt (ly_74.rcv _) sg_Hall_killerBits rfl rfl (w_killerBits hP (by omega) ((m1.ok v1).fr82 F2) hE7 (W := cvw (aC A)) (by rw [hvw_cg F2 (by omega) (by omega)]; exact m1.ve v1) h0 hnd hK0 hK (fun s3 F3 h3 => ?_))
      refine qv_iret rfl ?_
      have F' := F.trans (F3.mono (by omega) (by omega))
      exact hk s3 (hJ.fr hA F' (by omega)) (F'.c (by omega) (by omega))
    · intro s Q hJ hk
      have J1 := hJ.thr (v := 0)
      have rv := rview_neu J1.1 hC J1.2.2.2.2.2
      refine qP.of (L := [_, _, _, _]) (by omega) (hP _ rfl) ms_Model_killers rfl ?_
      show qW X PR (d - 1) (some .int) cd_Model_killers 0 _ _ _ _
      have loop : ∀ (c x : Nat) (s1 : QST), x + c = aC A 0 → efr (uF s 163 0 0) s1 → qW X PR (d - 1) (some .int) cd_Model_killers 3 [some (.ref (163)), some (.int (nI k)), some (.int (nI (bsN (kil (cvw (aC A)) g) x))), some (.int (nI x))] [] s1 Q := by
        intro c
        induction c with
        | zero =>
          intro x s1 hx F1
          have e : x = aC A 0 := by omega
          subst e
          refine qW.blk rfl ?_
          refine qv_iload rfl ?_
          refine qv_aload rfl ?_
          refine qv_gr ly_163 ⟨rfl, rfl, rfl⟩ (by omega) ?_
          refine qv_iconst (v := 0) rfl ?_
          refine qv_ia (j := 0) ly_164 rfl (by omega) (by decide) ((J1.fr F1.r).1 0 (by decide)) ?_
          refine qv_icmp_geNt rfl rfl (by omega) (by omega) (by omega) (tgt := 8) rfl ?_
          refine qW.blk rfl ?_
          refine qv_iload rfl ?_
          refine qv_iret (rfl) ?_
          exact hk s1 (J1.fr F1.r) (((qfr.rf s).uF (by omega)).trans F1.1)
        | succ c ih =>
          intro x s1 hx F1
          have J2 := J1.fr F1.r
          have hb := bsN_or (P := kil (cvw (aC A)) g) (n := x) (by omega)
          by_cases h : kil (cvw (aC A)) g x
          · have h' := h
            unfold kil at h'
            refine qW.blk rfl ?_
            refine qv_iload rfl ?_
            refine qv_aload rfl ?_
            refine qv_gr ly_163 ⟨rfl, rfl, rfl⟩ (by omega) ?_
            refine qv_iconst (v := 0) rfl ?_
            refine qv_ia (j := 0) ly_164 rfl (by omega) (by decide) (J2.1 0 (by decide)) ?_
            refine qv_icmp_geNf rfl rfl (by omega) (by omega) (by omega) (nx := 4) rfl ?_
            refine qW.blk rfl ?_
            refine qv_iload rfl ?_
            refine qv_aload rfl ?_
            refine qv_iload rfl ?_
            refine qv_iload rfl ?_
            refine qv_virt (ly_163.rcv _) sg_Model_isKiller rfl rfl (w_M_isKiller hP (by omega) (rv.e F1) (cvw_ok5 hC).u (by omega) (x := x) (by omega) hD (J2.2.2.2.1 k hk3) (fun s2 F2 => ?_)) 
            refine qv_if_eq_f (by rw [hg, if_neg h']; decide) (nx := 5) rfl ?_
            refine qW.blk rfl ?_
            refine qv_iconst (v := 1) rfl ?_
            refine qv_iload rfl ?_
            refine qv_ishl ?_
            refine qv_goto (tgt := 7) rfl ?_
            refine qW.blk rfl ?_
            refine qv_ior ?_
            refine qv_top (hb.1 h) ?_
            refine qv_istore (L' := [_, _, _, _]) rfl ?_
            refine qv_iinc (L' := [_, _, _, _]) rfl (nI_succ _).symm rfl ?_
            refine qv_goto (tgt := 3) rfl ?_
            exact ih (x + 1) s2 (by omega) (F1.trans F2)
          · have h' := Classical.byContradiction h
            refine qW.blk rfl ?_
            refine qv_iload rfl ?_
            refine qv_aload rfl ?_
            refine qv_gr ly_163 ⟨rfl, rfl, rfl⟩ (by omega) ?_
            refine qv_iconst (v := 0) rfl ?_
            refine qv_ia (j := 0) ly_164 rfl (by omega) (by decide) (J2.1 0 (by decide)) ?_
            refine qv_icmp_geNf rfl rfl (by omega) (by omega) (by omega) (nx := 4) rfl ?_
            refine qW.blk rfl ?_
            refine qv_iload rfl ?_
            refine qv_aload rfl ?_
            refine qv_iload rfl ?_
            refine qv_iload rfl ?_
            refine qv_virt (ly_163.rcv _) sg_Model_isKiller rfl rfl (w_M_isKiller hP (by omega) (rv.e F1) (cvw_ok5 hC).u (by omega) (x := x) (by omega) hD (J2.2.2.2.1 k hk3) (fun s2 F2 => ?_)) 
            refine qv_if_eq_t (by rw [hg, if_pos h']) (tgt := 6) rfl ?_
            refine qW.blk rfl ?_
            refine qv_iconst (v := 0) rfl ?_
            refine qv_nil (nx := 7) rfl ?_
            refine qW.blk rfl ?_
            refine qv_ior ?_
            refine qv_top ((or_zero32 _).trans (congrArg nI (hb.2 h))) ?_
            refine qv_istore (L' := [_, _, _, _]) rfl ?_
            refine qv_iinc (L' := [_, _, _, _]) rfl (nI_succ _).symm rfl ?_
            refine qv_goto (tgt := 3) rfl ?_
            exact ih (x + 1) s2 (by omega) (F1.trans F2)
      refine qW.blk rfl ?_
      refine qv_aload rfl ?_
      refine qv_iconst (v := 0) rfl ?_
      refine qv_pi ly_163 ⟨rfl, rfl, rfl⟩ (rfl) ?_
      refine qv_aload rfl ?_
      refine qv_iload rfl ?_
      refine qv_virtE (ly_163.rcv _) sg_Model_isTree rfl rfl (r_M_isTree hP (by omega) (nI k) (J1.1 3 (by decide))) ?_
      refine qv_if_ne_t (bI_ne.mpr ((in_nI1 (by omega)).mpr ⟨k, hk3, rfl⟩)) (tgt := 2) rfl ?_
      refine qW.blk rfl ?_
      refine qv_iconst (v := 0) rfl ?_
      refine qv_istore (L' := [_, _, _, _]) rfl ?_
      refine qv_iconst (v := 0) rfl ?_
      refine qv_istore (L' := [_, _, _, _]) rfl ?_
      refine qv_nil (nx := 3) rfl ?_
      exact loop (aC A 0) 0 _ (by omega) (efr.rf _)
  · refine ⟨.int (-1), A, hA, ?_, ?_⟩
    · intro s Q hJ hk
      refine qP.of (L := [_, _, _]) (by omega) (hP _ rfl) ms_Desk_killers rfl ?_
      show qW X PR (d - 1) (some .int) cd_Desk_killers 0 _ _ _ _
      refine qW.blk rfl ?_
      refine qv_aload rfl ?_
      refine qv_gr ly_8 ⟨rfl, rfl, rfl⟩ (by omega) ?_
      refine qv_iload rfl ?_
      refine qv_virtE (ly_9.rcv _) sg_Chamber_treeAt rfl rfl (r_treeAt_n hP (by omega) hJ.1.2.2.2.1 h12 hn) ?_
      refine qv_astoreN (L' := [_, _, _]) rfl ?_
      refine qv_aloadN rfl ?_
      refine qv_nonnull_f (nx := 1) rfl ?_
      refine qW.blk rfl ?_
      refine qv_iconst (v := (-1)) rfl ?_
      refine qv_iret (rfl) ?_
      exact hk s hJ (cfr.rf s)
    · intro s Q hJ hk
      have J1 := hJ.thr (v := 0)
      refine qP.of (L := [_, _, _, _]) (by omega) (hP _ rfl) ms_Model_killers rfl ?_
      show qW X PR (d - 1) (some .int) cd_Model_killers 0 _ _ _ _
      refine qW.blk rfl ?_
      refine qv_aload rfl ?_
      refine qv_iconst (v := 0) rfl ?_
      refine qv_pi ly_163 ⟨rfl, rfl, rfl⟩ (rfl) ?_
      refine qv_aload rfl ?_
      refine qv_iload rfl ?_
      refine qv_virtE (ly_163.rcv _) sg_Model_isTree rfl rfl (r_M_isTree hP (by omega) t (J1.1 3 (by decide))) ?_
      refine qv_if_ne_f (fun zq => zq (bI_f (fun z => hn ((in_nI1 (by omega)).mp z)))) (nx := 1) rfl ?_
      refine qW.blk rfl ?_
      refine qv_iconst (v := (-1)) rfl ?_
      refine qv_iret (rfl) ?_
      exact hk (uF s 163 0 0) hJ.thr ((qfr.rf s).uF (by omega))
end
