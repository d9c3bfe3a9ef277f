/-! LAWS: small chambers as views; what breaks a law -/
theorem veq.trans {D : Nat → Prop} {W W' W'' : VW} (h : veq D W W') (g : veq D W' W'') : veq D W W'' := by
  refine ⟨h.1.trans g.1, h.2.1.trans g.2.1, fun m hm => ?_⟩
  obtain ⟨a1, a2, a3, a4, a5, a6⟩ := h.2.2 m hm
  obtain ⟨b1, b2, b3, b4, b5, b6⟩ := g.2.2 m (h.1 ▸ hm)
  exact ⟨a1.trans b1, a2.trans b2, fun q => (a3 q).trans (b3 (by rw [← a1]; exact q)), fun q => (a4 q).trans (b4 (by rw [← a1]; exact q)), fun q => (a5 q).trans (b5 (by rw [← a1]; exact q)), fun x y hx hy => (a6 x y hx hy).trans (b6 x y hx hy)⟩
/-- the place of an END in a liking; the liking in which it is lifted -/
def plN (l e : Nat) : Nat := if e < 3 then [0, 1, 2, 0, 2, 1, 1, 0, 2, 2, 0, 1, 1, 2, 0, 2, 1, 0].getD (3 * l + e) 0 else 2
def liN (l p : Nat) : Nat := if p = 1 then [2, 4, 0, 5, 1, 3].getD l 0 else [1, 0, 3, 2, 5, 4].getD l 0
theorem plN_sp : ∀ l, l < 6 → ∀ e, e < 7 → sp_place (nI l) (nI e) = nI (plN l e) := by decide +kernel
theorem plN_tb : ∀ l, l < 6 → ∀ e, e < 3 → pm_tbf [0, 1, 2, 0, 2, 1, 1, 0, 2, 2, 0, 1, 1, 2, 0, 2, 1, 0] (l * 3 + e) = nI (plN l e) ∧ plN l e < 3 := by decide +kernel
theorem liN_tb : ∀ l, l < 6 → pm_tbf [2, 4, 0, 5, 1, 3] l = nI (liN l 1) ∧ pm_tbf [1, 0, 3, 2, 5, 4] l = nI (liN l 2) ∧ liN l 1 < 6 ∧ liN l 2 < 6 := by decide +kernel
theorem plN_lt : ∀ l, l < 6 → ∀ e, e < 7 → plN l e < 3 := by decide +kernel
def wF (z kd ch : Nat) (w : Nat → Nat → Int32) : VW := (z, nI ch, fun _ => nI kd, fun _ => 1, fun _ => 0, fun _ => 0, fun _ => 0, w)
/-- the chamber of some likings -/
def wR (z kd ch : Nat) (l : Nat → Nat) : VW := wF z kd ch (fun m e => nI (plN (l m) e))
theorem wF_ok {z kd ch : Nat} {w : Nat → Nat → Int32} (hz : z ≤ 3) (hk : kd ≤ 1) : vok (wF z kd ch w) 0 := by
  refine ⟨show z ≤ 9 by omega, by decide, fun m _ => ⟨⟨kd, by omega, rfl⟩, ⟨1, by decide, rfl⟩, fun q => ?_, fun q => ?_⟩⟩
  · exfalso
    rcases q with q | q
    · have := (nI_eq (a := kd) (b := 3) (by omega) (by omega)).mp q; omega
    · have := (nI_eq (a := kd) (b := 4) (by omega) (by omega)).mp q; omega
  · exfalso
    have := (nI_eq (a := kd) (b := 2) (by omega) (by omega)).mp q; omega
/-- the hall holds the chamber of some likings, for ENDS 0, 1, 2 -/
def hmx (s : QST) (z kd ch : Nat) (l : Nat → Nat) : Prop := ∃ w, hm s (wF z kd ch w) 0 ∧ ∀ m, m < z → ∀ e, e < 3 → w m e = nI (plN (l m) e)
theorem hmx.ok {s : QST} {z kd ch : Nat} {l : Nat → Nat} (h : hmx s z kd ch l) (hz : z ≤ 3) (hk : kd ≤ 1) : hok s z 0 := by
  obtain ⟨w, h1, -⟩ := h
  exact h1.ok (wF_ok hz hk)
theorem hmx.ve {s : QST} {z kd ch : Nat} {l : Nat → Nat} (h : hmx s z kd ch l) (hz : z ≤ 3) (hk : kd ≤ 1) : veq (fun e => e < 3) (hvw s z) (wR z kd ch l) := by
  obtain ⟨w, h1, h2⟩ := h
  refine veq.trans ((h1.ve (wF_ok hz hk)).mono (fun x hx => Nat.lt_trans hx (by decide))) ⟨rfl, rfl, fun m hm => ⟨rfl, rfl, fun _ => rfl, fun _ => rfl, fun _ => rfl, fun x y hx hy => ?_⟩⟩
  show sgn (w m x) (w m y) = sgn (nI (plN (l m) x)) (nI (plN (l m) y))
  rw [h2 m hm x hx, h2 m hm y hy]
/-- the END that comes in the chamber of some likings -/
def cend (z kd ch : Nat) (D : TD) (l : Nat → Nat) : Nat := (gval (wR z kd ch l) D.2.1 (D.2.2.2.1 - 1)).2.1
def E3 (D : TD) : Prop := ∀ e, (sdb D.1 D.2.2.2.1 e ∨ akb D.1 D.2.2.2.1 e) → e < 3
theorem cend_lt {z kd ch : Nat} {D : TD} {l : Nat → Nat} (hD : tdOK D) (hE : E3 D) (hz : z ≤ 3) (hk : kd ≤ 1) : cend z kd ch D l < 3 := by
  have := (ceq_of (E := fun e => e < 3) hD hE (veq.rf (wR z kd ch l)) (vok.u (wF_ok hz hk))).2 0 hD.1
  rw [hD.2.2.2.2.1.1] at this
  exact this.2.1
theorem cend_cg {z kd ch : Nat} {D : TD} {l l' : Nat → Nat} (hD : tdOK D) (hz : z ≤ 3) (hk : kd ≤ 1) (h : ∀ j, j < z → l j = l' j) : cend z kd ch D l = cend z kd ch D l' := by
  refine (gval_ve (W := wR z kd ch l) (W' := wR z kd ch l') ⟨rfl, rfl, fun m hm => ⟨rfl, rfl, fun _ => rfl, fun _ => rfl, fun _ => rfl, fun x y hx hy => ?_⟩⟩ (vok.u (wF_ok hz hk)) hD.2.2.2.1 (D.2.2.2.1 - 1) (by have := hD.1; omega)).1.2.1
  show sgn (nI (plN (l m) x)) (nI (plN (l m) y)) = sgn (nI (plN (l' m) x)) (nI (plN (l' m) y))
  rw [h m hm]
/-- a law is broken in the chamber of some likings -/
def brk0 (z kd ch : Nat) (D : TD) (l : Nat → Nat) : Prop := ∃ x, x < 3 ∧ (∀ y, y < 3 → y ≠ x → gbts (wR z kd ch l) x y) ∧ cend z kd ch D l ≠ x
def brk1 (z kd ch : Nat) (D : TD) (l : Nat → Nat) (j : Nat) : Prop := 0 < plN (l j) (cend z kd ch D l) ∧ cend z kd ch D (updN l j (liN (l j) (plN (l j) (cend z kd ch D l)))) ≠ cend z kd ch D l
def brk2 (z kd ch : Nat) (D : TD) (l : Nat → Nat) (j : Nat) : Prop := ∃ o, o < 6 ∧ plN (l j) (cend z kd ch D (updN l j o)) < plN (l j) (cend z kd ch D l)
def brk (z kd ch : Nat) (D : TD) (law : Nat) (l : Nat → Nat) : Prop := if law = 0 then brk0 z kd ch D l else ∃ j, j < z ∧ (if law = 1 then brk1 z kd ch D l j else brk2 z kd ch D l j)
/-- the likings of a chamber by its number -/
def lkc (z c j : Nat) : Nat := c / 6 ^ (z - 1 - j) % 6
def cw (z c j o : Nat) : Nat := c - lkc z c j * 6 ^ (z - 1 - j) + o * 6 ^ (z - 1 - j)
theorem lkc_lt {z c j : Nat} : lkc z c j < 6 := Nat.mod_lt _ (by decide)
theorem cw_chk : ∀ p, p < 3 → ∀ c, c < 216 → c / 6 ^ p % 6 * 6 ^ p ≤ c ∧ ∀ o, o < 6 → ∀ p', p' < 3 → (c - c / 6 ^ p % 6 * 6 ^ p + o * 6 ^ p) / 6 ^ p' % 6 = if p' = p then o else c / 6 ^ p' % 6 := by decide +kernel
theorem cw_bd : ∀ z, z < 4 → ∀ p, p < z → ∀ c, c < 6 ^ z → ∀ o, o < 6 → c - c / 6 ^ p % 6 * 6 ^ p + o * 6 ^ p < 6 ^ z := by decide +kernel
theorem pow6 : ∀ z, z < 4 → 6 ^ z ≤ 216 ∧ 0 < 6 ^ z := by decide
theorem cw_lt {z c j o : Nat} (hz : z ≤ 3) (hj : j < z) (hc : c < 6 ^ z) (ho : o < 6) : cw z c j o < 6 ^ z := cw_bd z (by omega) (z - 1 - j) (by omega) c hc o ho
theorem lkc_cw {z c j o : Nat} (hz : z ≤ 3) (hj : j < z) (hc : c < 6 ^ z) (ho : o < 6) : ∀ j', j' < z → lkc z (cw z c j o) j' = updN (lkc z c) j o j' := by
  intro j' hj'
  have := (pow6 z (by omega)).1
  have h := (cw_chk (z - 1 - j) (by omega) c (by omega)).2 o ho (z - 1 - j') (by omega)
  unfold lkc cw
  unfold lkc
  rw [h]
  by_cases e : j' = j
  · subst e; rw [if_pos rfl, updN_s]
  · rw [if_neg (by omega), updN_n e]
theorem cend_cw {z kd ch c j o : Nat} {D : TD} (hD : tdOK D) (hz : z ≤ 3) (hk : kd ≤ 1) (hj : j < z) (hc : c < 6 ^ z) (ho : o < 6) : cend z kd ch D (lkc z (cw z c j o)) = cend z kd ch D (updN (lkc z c) j o) := cend_cg hD hz hk (lkc_cw hz hj hc ho)
theorem hm_w {s s' : QST} {z kd ch m : Nat} {w : Nat → Nat → Int32} (h : hm s (wF z kd ch w) 0) (hm1 : m < z) (F : qfr (84 + 3 * m + 1) (84 + 3 * m + 1) s s') : hm s' (wF z kd ch (fun m' e => if m' = m then qE s' (84 + 3 * m + 1) e else w m' e)) 0 := by
  obtain ⟨h1, h2, h3, h4⟩ := h
  refine ⟨by rw [F.f (by omega)]; exact h1, by rw [F.f (by omega)]; exact h2, by rw [F.f (by omega)]; exact h3, fun m' hm' => ?_⟩
  obtain ⟨a1, a2, a3, a4, a5⟩ := h4 m' hm'
  refine ⟨by rw [F.f (by omega)]; exact a1, by rw [F.f (by omega)]; exact a2, by rw [F.f (by omega)]; exact a3, by rw [F.f (by omega)]; exact a4, fun e he => ?_⟩
  show _ = (if m' = m then qE s' (84 + 3 * m + 1) e else w m' e)
  by_cases e1 : m' = m
  · subst e1; rw [if_pos rfl]
  · rw [if_neg e1, F.e (by omega)]; exact a5 e he
section
variable {X : pm_X} {PR : pm_P} {s : QST} {Q : QPost}
theorem w_seatOthers (hP : pm_np PR) {d : Nat} (hd : 3 ≤ d) {z kd ch : Nat} (hz : z ≤ 3) (hk : ∀ s', qfr 74 110 s s' → hm s' (wF z kd ch (fun _ _ => 5)) 0 → Q none s') : qP X PR d 32 [.ref 74, .int (nI z), .int (nI kd), .int (nI ch)] s Q := by
  refine qP.of (L := [_, _, _, _, _]) (by omega) (hP _ rfl) ms_Hall_seatOthers rfl ?_
  show qW X PR (d - 1) (none) cd_Hall_seatOthers 0 _ _ _ _
  have loop : ∀ (c m : Nat) (s1 : QST), m + c = z → qfr 74 110 s s1 → qF s1 74 0 = nI z → qF s1 74 1 = nI ch → qF s1 74 2 = nI 0 → (∀ j, j < m → qF s1 (84 + 3 * j) 1 = nI kd ∧ qF s1 (84 + 3 * j) 2 = 1 ∧ qF s1 (84 + 3 * j) 3 = 0 ∧ qF s1 (84 + 3 * j) 4 = 0 ∧ ∀ e, e < 7 → qE s1 (84 + 3 * j + 1) e = 5) → qW X PR (d - 1) (none) cd_Hall_seatOthers 1 [some (.ref (74)), some (.int (nI z)), some (.int (nI kd)), some (.int (nI ch)), some (.int (nI m))] [] s1 Q := by
    intro c
    induction c with
    | zero =>
      intro m s1 hm F1 h0 h1 h2 h3
      have e : m = z := by omega
      subst e
      refine qW.blk rfl ?_
      refine qv_iload rfl ?_
      refine qv_aload rfl ?_
      refine qv_gi ly_74 ⟨rfl, rfl, rfl⟩ (h0) ?_
      refine qv_icmp_geNt rfl rfl (by omega) (by omega) (by omega) (tgt := 3) rfl ?_
      refine qW.blk rfl ?_
      refine qv_ret rfl ?_
      exact hk s1 F1 ⟨h0, h1, h2, h3⟩
    | succ c ih =>
      intro m s1 hm F1 h0 h1 h2 h3
      refine qW.blk rfl ?_
      refine qv_iload rfl ?_
      refine qv_aload rfl ?_
      refine qv_gi ly_74 ⟨rfl, rfl, rfl⟩ (h0) ?_
      refine qv_icmp_geNf rfl rfl (by omega) (by omega) (by omega) (nx := 2) rfl ?_
      refine qW.blk rfl ?_
      refine qv_aload rfl ?_
      refine qv_gr ly_74 ⟨rfl, rfl, rfl⟩ (by omega) ?_
      refine qv_iload rfl ?_
      refine qv_aa (j := m) (r := 84 + 3 * m) ly_75 rfl (show _ < 9 by omega) (by decide) rfl ?_
      refine qv_iload rfl ?_
      refine qv_iload rfl ?_
      refine qv_iconst (v := 1) rfl ?_
      refine qv_iconst (v := 0) rfl ?_
      refine qv_virt ((mb_seat (m := m) (by omega)).1.rcv _) sg_Member_begin rfl rfl (w_Member_begin hP (by omega) (mb_seat (m := m) (by omega)) (nI m) (nI kd) 1 0 (fun s2 F2 g0 g1 g2 g3 g4 g5 g6 => ?_)) 
      refine qv_iinc (L' := [_, _, _, _, _]) rfl (nI_succ _).symm rfl ?_
      refine qv_goto (tgt := 1) rfl ?_
      refine ih (m + 1) s2 (by omega) (F1.trans (F2.mono (by omega) (by omega))) ((F2.f (by omega)).trans h0) ((F2.f (by omega)).trans h1) ((F2.f (by omega)).trans h2) (fun j hj => ?_)
      by_cases e : j = m
      · subst e; exact ⟨g1, g2, g3, g4, fun e he => (g6 e he).1⟩
      · obtain ⟨a1, a2, a3, a4, a5⟩ := h3 j (by omega)
        exact ⟨(F2.f (by omega)).trans a1, (F2.f (by omega)).trans a2, (F2.f (by omega)).trans a3, (F2.f (by omega)).trans a4, fun e he => (F2.e (by omega)).trans (a5 e he)⟩
  refine qW.blk rfl ?_
  refine qv_aload rfl ?_
  refine qv_iload rfl ?_
  refine qv_pi ly_74 ⟨rfl, rfl, rfl⟩ (rfl) ?_
  refine qv_aload rfl ?_
  refine qv_iload rfl ?_
  refine qv_pi ly_74 ⟨rfl, rfl, rfl⟩ (rfl) ?_
  refine qv_aload rfl ?_
  refine qv_iconst (v := 0) rfl ?_
  refine qv_pi ly_74 ⟨rfl, rfl, rfl⟩ (rfl) ?_
  refine qv_iconst (v := 0) rfl ?_
  refine qv_istore (L' := [_, _, _, _, _]) rfl ?_
  refine qv_nil (nx := 1) rfl ?_
  exact loop z 0 _ (by omega) ((((qfr.rf s).uF (by omega)).uF (by omega)).uF (by omega)) (by rw [qF_uFk (by omega), qF_uFk (by omega), qF_uFs]) (by rw [qF_uFk (by omega), qF_uFs]) qF_uFs (fun j hj => absurd hj (Nat.not_lt_zero _))
theorem w_assemble (hP : pm_np PR) {d : Nat} (hd : 4 ≤ d) {z kd ch : Nat} (hz : z ≤ 3) (hk : ∀ s', qfr 74 121 s s' → hm s' (wF z kd ch (fun _ _ => 5)) 0 → qF s' 121 1 = nI z → qF s' 121 2 = nI (6 ^ z) → Q none s') : qP X PR d 34 [.ref 121, .int (nI z), .int (nI kd), .int (nI ch)] s Q := by
  refine qP.of (L := [_, _, _, _, _]) (by omega) (hP _ rfl) ms_Laws_assemble rfl ?_
  show qW X PR (d - 1) (none) cd_Laws_assemble 0 _ _ _ _
  have loop : ∀ (c m : Nat) (s1 : QST), m + c = z → qfr 74 121 s s1 → hm s1 (wF z kd ch (fun _ _ => 5)) 0 → qF s1 121 1 = nI z → qF s1 121 2 = nI (6 ^ m) → qW X PR (d - 1) (none) cd_Laws_assemble 1 [some (.ref (121)), some (.int (nI z)), some (.int (nI kd)), some (.int (nI ch)), some (.int (nI m))] [] s1 Q := by
    intro c
    induction c with
    | zero =>
      intro m s1 hm F1 m1 h1 h2
      have e : m = z := by omega
      subst e
      refine qW.blk rfl ?_
      refine qv_iload rfl ?_
      refine qv_aload rfl ?_
      refine qv_gi ly_121 ⟨rfl, rfl, rfl⟩ (h1) ?_
      refine qv_icmp_geNt rfl rfl (by omega) (by omega) (by omega) (tgt := 3) rfl ?_
      refine qW.blk rfl ?_
      refine qv_ret rfl ?_
      exact hk s1 F1 m1 h1 h2
    | succ c ih =>
      intro m s1 hm F1 m1 h1 h2
      refine qW.blk rfl ?_
      refine qv_iload rfl ?_
      refine qv_aload rfl ?_
      refine qv_gi ly_121 ⟨rfl, rfl, rfl⟩ (h1) ?_
      refine qv_icmp_geNf rfl rfl (by omega) (by omega) (by omega) (nx := 2) rfl ?_
      refine qW.blk rfl ?_
      refine qv_aload rfl ?_
      refine qv_dup rfl ?_
      refine qv_gi ly_121 ⟨rfl, rfl, rfl⟩ (h2) ?_
      refine qv_iconst (v := 6) rfl ?_
      refine qv_imulN (q := 6) rfl rfl ?_
      refine qv_pi ly_121 ⟨rfl, rfl, rfl⟩ (rfl) ?_
      refine qv_iinc (L' := [_, _, _, _, _]) rfl (nI_succ _).symm rfl ?_
      refine qv_goto (tgt := 1) rfl ?_
      exact ih (m + 1) _ (by omega) (F1.uF (by omega)) (m1.fr ((qfr.rf s1).uF (lo := 121) (hi := 121) (by omega)) (by omega) (show z ≤ 9 by omega)) (by rw [qF_uFk (by omega)]; exact h1) (by rw [qF_uFs, Nat.pow_succ])
  refine qW.blk rfl ?_
  refine qv_aload rfl ?_
  refine qv_iload rfl ?_
  refine qv_pi ly_121 ⟨rfl, rfl, rfl⟩ (rfl) ?_
  refine qv_aload rfl ?_
  refine qv_gr ly_121 ⟨rfl, rfl, rfl⟩ (by omega) ?_
  refine qv_iload rfl ?_
  refine qv_iload rfl ?_
  refine qv_iload rfl ?_
  refine qv_virt (ly_74.rcv _) sg_Hall_seatOthers rfl rfl (w_seatOthers hP (by omega) hz (fun s1 F1 m1 => ?_)) 
  refine qv_aload rfl ?_
  refine qv_iconst (v := 1) rfl ?_
  refine qv_pi ly_121 ⟨rfl, rfl, rfl⟩ (rfl) ?_
  refine qv_iconst (v := 0) rfl ?_
  refine qv_istore (L' := [_, _, _, _, _]) rfl ?_
  refine qv_nil (nx := 1) rfl ?_
  refine loop z 0 _ (by omega) ?_ (m1.fr ((qfr.rf s1).uF (lo := 121) (hi := 121) (by omega)) (by omega) (show z ≤ 9 by omega)) ?_ qF_uFs
  · exact ((((qfr.rf s).uF (by omega)).trans (F1.mono (by omega) (by omega)))).uF (by omega)
  · rw [qF_uFk (by omega), F1.f (by omega), qF_uFs]
theorem w_like (hP : pm_np PR) (hX2 : X 2 = some (18, pm_tbf [0, 1, 2, 0, 2, 1, 1, 0, 2, 2, 0, 1, 1, 2, 0, 2, 1, 0])) {d : Nat} (hd : 1 ≤ d) {z kd ch c : Nat} {w : Nat → Nat → Int32} (hz : z ≤ 3) (hc : c < 6 ^ z) (h0 : hm s (wF z kd ch w) 0) (h1 : qF s 121 1 = nI z) (hk : ∀ s', qfr 84 110 s s' → hmx s' z kd ch (lkc z c) → Q none s') : qP X PR d 36 [.ref 121, .int (nI c)] s Q := by
  refine qP.of (L := [_, _, _, _]) (by omega) (hP _ rfl) ms_Laws_like rfl ?_
  show qW X PR (d - 1) (none) cd_Laws_like 0 _ _ _ _
  have hp6 := (pow6 z (by omega)).1
  have loop : ∀ (r L : Nat) (v : Int32) (s1 : QST) (w1 : Nat → Nat → Int32), r ≤ z → v = nI r - 1 → L = c / 6 ^ (z - r) → qfr 84 110 s s1 → hm s1 (wF z kd ch w1) 0 → (∀ m, r ≤ m → m < z → ∀ e, e < 3 → w1 m e = nI (plN (lkc z c m) e)) → qW X PR (d - 1) (none) cd_Laws_like 1 [some (.ref (121)), some (.int (nI c)), some (.int (nI L)), some (.int (v))] [] s1 Q := by
    intro r
    induction r with
    | zero =>
      intro L v s1 w1 hr hv hL F1 m1 g1
      subst hv
      refine qW.blk rfl ?_
      refine qv_iload rfl ?_
      refine qv_if_lt_t (by decide) (tgt := 3) rfl ?_
      refine qW.blk rfl ?_
      refine qv_ret rfl ?_
      exact hk s1 F1 ⟨w1, m1, fun m hm => g1 m (by omega) hm⟩
    | succ r ih =>
      intro L v s1 w1 hr hv hL F1 m1 g1
      rw [nI_dec] at hv
      subst hv
      have hLc : L ≤ c := by rw [hL]; exact Nat.div_le_self _ _
      have hlk : L % 6 = lkc z c r := by rw [hL]; unfold lkc; rw [show z - (r + 1) = z - 1 - r by omega]
      have hlk6 : lkc z c r < 6 := lkc_lt
      have hL2 : L / 6 = c / 6 ^ (z - r) := by
        rw [hL, show z - r = z - (r + 1) + 1 by omega, Nat.pow_succ, Nat.div_div_eq_div_mul]
      have F2 : qfr (84 + 3 * r + 1) (84 + 3 * r + 1) s1 (uA s1 (84 + 3 * r + 1) (va_cpy (pm_tbf [0, 1, 2, 0, 2, 1, 1, 0, 2, 2, 0, 1, 1, 2, 0, 2, 1, 0]) (qE s1 (84 + 3 * r + 1)) (L % 6 * 3) 0 3)) := (qfr.rf s1).uA ⟨Nat.le_refl _, Nat.le_refl _⟩
      have m2 := hm_w m1 (show r < z by omega) F2
      refine qW.blk rfl ?_
      refine qv_iload rfl ?_
      refine qv_if_lt_f (Int32.not_lt.mpr (nI_pos' (by omega))) (nx := 2) rfl ?_
      refine qW.blk rfl ?_
      refine qv_gets ?_
      refine qv_iload rfl ?_
      refine qv_iconst (v := 6) rfl ?_
      refine qv_iremN (q := 6) rfl rfl (by omega) (by omega) (by omega) ?_
      refine qv_iconst (v := 3) rfl ?_
      refine qv_imulN (q := 3) rfl rfl ?_
      refine qv_aload rfl ?_
      refine qv_gr ly_121 ⟨rfl, rfl, rfl⟩ (by omega) ?_
      refine qv_gr ly_74 ⟨rfl, rfl, rfl⟩ (by omega) ?_
      refine qv_iload rfl ?_
      refine qv_aa (j := r) (r := 84 + 3 * r) ly_75 (rfl) (show _ < 9 by omega) (by decide) rfl ?_
      refine qv_gr (mb_seat (m := r) (by omega)).1 ⟨rfl, rfl, rfl⟩ (by omega) ?_
      refine qv_iconst (v := 0) rfl ?_
      refine qv_iconst (v := 3) rfl ?_
      refine qv_copyX (q := 0) (m := 3) hX2 (by decide) (mb_seat (m := r) (by omega)).2.1 rfl rfl rfl (⟨by omega, by omega, by decide, by decide⟩) (Nat.le_of_ble_eq_true rfl) ?_
      refine qv_iload rfl ?_
      refine qv_iconst (v := 6) rfl ?_
      refine qv_idivN (q := 6) rfl rfl (by omega) (by omega) (by omega) ?_
      refine qv_istore (L' := [_, _, _, _]) rfl ?_
      refine qv_iinc (L' := [_, _, _, _]) rfl (dec_eq _) rfl ?_
      refine qv_goto (tgt := 1) rfl ?_
      refine ih (L / 6) _ _ _ (by omega) rfl hL2 (F1.trans (F2.mono (by omega) (by omega))) m2 (fun m h1 h2 e he => ?_)
      by_cases em : m = r
      · subst em
        show (if m = m then _ else _) = _
        rw [if_pos rfl, qE_uAs]
        show (if 0 ≤ e ∧ e < 0 + 3 then pm_tbf [0, 1, 2, 0, 2, 1, 1, 0, 2, 2, 0, 1, 1, 2, 0, 2, 1, 0] (L % 6 * 3 + (e - 0)) else _) = _
        rw [if_pos ⟨Nat.zero_le _, by omega⟩, hlk]
        exact (plN_tb _ hlk6 e he).1
      · show (if m = r then _ else w1 m e) = _
        rw [if_neg em]
        exact g1 m (by omega) h2 e he
  refine qW.blk rfl ?_
  refine qv_iload rfl ?_
  refine qv_istore (L' := [_, _, _, _]) rfl ?_
  refine qv_aload rfl ?_
  refine qv_gi ly_121 ⟨rfl, rfl, rfl⟩ (h1) ?_
  refine qv_iconst (v := 1) rfl ?_
  refine qv_isub ?_
  refine qv_istore (L' := [_, _, _, _]) rfl ?_
  refine qv_nil (nx := 1) rfl ?_
  exact loop z c _ s w (Nat.le_refl _) rfl (by rw [Nat.sub_self, Nat.pow_zero, Nat.div_one]) (qfr.rf s) h0 (fun m h1 h2 => by omega)
theorem w_reckon (hP : pm_np PR) (hX2 : X 2 = some (18, pm_tbf [0, 1, 2, 0, 2, 1, 1, 0, 2, 2, 0, 1, 1, 2, 0, 2, 1, 0])) {d : Nat} (hd : 6 ≤ d) {z kd ch T : Nat} {w : Nat → Nat → Int32} {D : TD} (hz : z ≤ 3) (hkd : kd ≤ 1) (hD : tdOK D) (hE : E3 D) (hT : cTD (qR s) T D) (h0 : hm s (wF z kd ch w) 0) (h1 : qF s 121 1 = nI z) (h2 : qF s 121 2 = nI (6 ^ z)) (hk : ∀ s' w', qfr 74 122 s s' → hm s' (wF z kd ch w') 0 → qF s' 121 1 = nI z → qF s' 121 2 = nI (6 ^ z) → (∀ c, c < 6 ^ z → qE s' 122 c = nI (cend z kd ch D (lkc z c))) → Q none s') : qP X PR d 35 [.ref 121, .ref T] s Q := by
  refine qP.of (L := [_, _, _]) (by omega) (hP _ rfl) ms_Laws_reckonEnds rfl ?_
  show qW X PR (d - 1) (none) cd_Laws_reckonEnds 0 _ _ _ _
  have hp6 := (pow6 z (by omega)).1
  have loop : ∀ (k c : Nat) (s1 : QST) (w1 : Nat → Nat → Int32), c + k = 6 ^ z → qfr 74 122 s s1 → hm s1 (wF z kd ch w1) 0 → qF s1 121 1 = nI z → qF s1 121 2 = nI (6 ^ z) → (∀ j, j < c → qE s1 122 j = nI (cend z kd ch D (lkc z j))) → qW X PR (d - 1) (none) cd_Laws_reckonEnds 1 [some (.ref (121)), some (.ref (T)), some (.int (nI c))] [] s1 Q := by
    intro k
    induction k with
    | zero =>
      intro c s1 w1 hc F1 m1 g1 g2 g3
      have e : c = 6 ^ z := by omega
      subst e
      refine qW.blk rfl ?_
      refine qv_iload rfl ?_
      refine qv_aload rfl ?_
      refine qv_gi ly_121 ⟨rfl, rfl, rfl⟩ (g2) ?_
      refine qv_icmp_geNt rfl rfl (by omega) (by omega) (by omega) (tgt := 3) rfl ?_
      refine qW.blk rfl ?_
      refine qv_ret rfl ?_
      exact hk s1 w1 F1 m1 g1 g2 g3
    | succ k ih =>
      intro c s1 w1 hc F1 m1 g1 g2 g3
      refine qW.blk rfl ?_
      refine qv_iload rfl ?_
      refine qv_aload rfl ?_
      refine qv_gi ly_121 ⟨rfl, rfl, rfl⟩ (g2) ?_
      refine qv_icmp_geNf rfl rfl (by omega) (by omega) (by omega) (nx := 2) rfl ?_
      refine qW.blk rfl ?_
      refine qv_aload rfl ?_
      refine qv_iload rfl ?_
      refine qv_virt (ly_121.rcv _) sg_Laws_like rfl rfl (w_like hP hX2 (by omega) hz (by omega) m1 g1 (fun s2 F2 x2 => ?_)) 
      refine qv_aload rfl ?_
      refine qv_gr ly_121 ⟨rfl, rfl, rfl⟩ (by omega) ?_
      refine qv_iload rfl ?_
      refine qv_aload rfl ?_
      refine qv_gr ly_121 ⟨rfl, rfl, rfl⟩ (by omega) ?_
      refine qv_aload rfl ?_
      refine qv_virt (ly_74.rcv _) sg_Hall_settle rfl rfl (w_settleT hP (by omega) (x2.ok hz hkd) hD (by rw [F2.R, F1.R]; exact hT) hE (x2.ve hz hkd) (fun s3 F3 h3 => ?_)) 
      refine qv_is ly_122 rfl (by omega) (by decide) ?_
      refine qv_iinc (L' := [_, _, _]) rfl (nI_succ _).symm rfl ?_
      refine qv_goto (tgt := 1) rfl ?_
      obtain ⟨w2, x3, x4⟩ := x2
      have m3 := (x3.fr F3 (by omega) (show z ≤ 9 by omega)).fr ((qfr.rf s3).uE (c := 122) (k := c) (v := nI (gval (wR z kd ch (lkc z c)) D.2.1 (D.2.2.2.1 - 1)).2.1) (lo := 122) (hi := 122) (by omega)) (by omega) (show z ≤ 9 by omega)
      refine ih (c + 1) _ w2 (by omega) ((F1.trans ((F2.mono (by omega) (by omega)).trans (F3.mono (by omega) (by omega)))).uE (by omega)) m3 ((F3.f (by omega)).trans ((F2.f (by omega)).trans g1)) ((F3.f (by omega)).trans ((F2.f (by omega)).trans g2)) (fun j hj => ?_)
      by_cases ej : j = c
      · subst ej; rw [qE_uEs]; rfl
      · rw [qE_uEk ej, F3.e (by omega), F2.e (by omega)]; exact g3 j (by omega)
  refine qW.blk rfl ?_
  refine qv_iconst (v := 0) rfl ?_
  refine qv_istore (L' := [_, _, _]) rfl ?_
  refine qv_nil (nx := 1) rfl ?_
  exact loop _ 0 s w (Nat.zero_add _) (qfr.rf s) h0 h1 h2 (fun j hj => absurd hj (Nat.not_lt_zero _))
end
