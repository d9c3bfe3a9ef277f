/-! the reference reads a text: its small calls -/
theorem byt_and {v : Int32} {b : Nat} (h : byt v b) : v &&& 255 = nI b := by
  obtain ⟨h1, h2⟩ := h
  have key : ∀ b, b < 256 → (if b < 128 then nI b else nI b - 256) &&& 255 = nI b := by decide +kernel
  have e : v = if b < 128 then nI b else nI b - 256 := by
    apply Int32.toInt_inj.mp
    rw [h2]
    have k2 : ∀ b, b < 256 → (if b < 128 then nI b else nI b - 256).toInt = if b < 128 then (b : Int) else (b : Int) - 256 := by decide +kernel
    exact (k2 b h1).symm
  rw [e]; exact key b h1
/-- the reference's text -/
def PB (s : QST) (dd z n : Nat) (B : Nat → Nat) : Prop := qF s 163 11 = nI (120 * dd) ∧ qF s 163 12 = nI z ∧ qE s 164 0 = nI n ∧ ∀ j, j < z → B j < 256 ∧ (qL s 201 (120 * dd + j)).toInt32 &&& 255 = nI (B j)
/-- what its reading changes -/
def pf (s s' : QST) : Prop := rfr s s' ∧ qF s' 163 11 = qF s 163 11 ∧ qF s' 163 12 = qF s 163 12
theorem pf.rf (s : QST) : pf s s := ⟨rfr.rf s, rfl, rfl⟩
theorem pf.trans {s t u : QST} (h : pf s t) (g : pf t u) : pf s u := ⟨h.1.trans g.1, g.2.1.trans h.2.1, g.2.2.trans h.2.2⟩
theorem pf.sF {s t : QST} {k : Nat} {v : Int32} (h : pf s t) (hk : (13 ≤ k ∧ k ≤ 16) ∨ k = 26 ∨ k = 27) : pf s (uF t 163 k v) := ⟨h.1.sF (by omega), by rw [qF_uFk (by omega)]; exact h.2.1, by rw [qF_uFk (by omega)]; exact h.2.2⟩
theorem pf.sE {s t : QST} {c k : Nat} {v : Int32} (h : pf s t) (hc : 173 ≤ c ∧ c ≤ 181) : pf s (uE t c k v) := ⟨h.1.sE (by omega), h.2.1, h.2.2⟩
theorem PB.fr {s s' : QST} {dd z n : Nat} {B : Nat → Nat} (h : PB s dd z n B) (F : pf s s') : PB s' dd z n B := ⟨F.2.1.trans h.1, F.2.2.trans h.2.1, by rw [F.1.2.1 164 (by omega)]; exact h.2.2.1, fun j hj => by rw [F.1.2.2.1]; exact h.2.2.2 j hj⟩
section
variable {X : pm_X} {PR : pm_P} {s : QST} {Q : QPost} {dd z n : Nat} {B : Nat → Nat}
theorem r_here_y (hP : pm_np PR) {d : Nat} (hd : 1 ≤ d) {a : Nat} (hB : PB s dd z n B) (hdd : dd < 8) (hz : z ≤ 120) (h13 : qF s 163 13 = nI a) (ha : a < z) : pm_run X pm_Ms PR d 180 [.ref 163] (qhp s) = some (some (.int (nI (B a))), qhp s) := by
  obtain ⟨p1, p2, p3, p4⟩ := hB
  refine qP.run ?_
  refine qP.of (L := [_]) (by omega) (hP _ rfl) ms_Model_here rfl ?_
  show qW X PR (d - 1) (some .int) cd_Model_here 0 _ _ _ _
  refine qW.blk rfl ?_
  refine qv_aload rfl ?_
  refine qv_gi ly_163 ⟨rfl, rfl, rfl⟩ (h13) ?_
  refine qv_aload rfl ?_
  refine qv_gi ly_163 ⟨rfl, rfl, rfl⟩ (p2) ?_
  refine qv_icmp_ltNt rfl rfl (by omega) (by omega) (by omega) (tgt := 2) rfl ?_
  refine qW.blk rfl ?_
  refine qv_aload rfl ?_
  refine qv_gr ly_163 ⟨rfl, rfl, rfl⟩ (by omega) ?_
  refine qv_aload rfl ?_
  refine qv_gi ly_163 ⟨rfl, rfl, rfl⟩ (p1) ?_
  refine qv_aload rfl ?_
  refine qv_gi ly_163 ⟨rfl, rfl, rfl⟩ (h13) ?_
  refine qv_iaddN rfl rfl ?_
  refine qv_la ly_201 rfl (by omega) (by decide) (rfl) ?_
  refine qv_l2i ?_
  refine qv_iconst (v := 255) rfl ?_
  refine qv_iand ?_
  refine qv_nil (nx := 3) rfl ?_
  refine qW.blk rfl ?_
  refine qv_top ((p4 a ha).2) ?_
  refine qv_iret (rfl) ?_
  exact ⟨rfl, rfl⟩
theorem r_here_n (hP : pm_np PR) {d : Nat} (hd : 1 ≤ d) {a : Nat} (hB : PB s dd z n B) (hz : z ≤ 120) (h13 : qF s 163 13 = nI a) (ha : ¬ a < z) (haz : a ≤ z) : pm_run X pm_Ms PR d 180 [.ref 163] (qhp s) = some (some (.int (-1)), qhp s) := by
  obtain ⟨p1, p2, p3, p4⟩ := hB
  refine qP.run ?_
  refine qP.of (L := [_]) (by omega) (hP _ rfl) ms_Model_here rfl ?_
  show qW X PR (d - 1) (some .int) cd_Model_here 0 _ _ _ _
  refine qW.blk rfl ?_
  refine qv_aload rfl ?_
  refine qv_gi ly_163 ⟨rfl, rfl, rfl⟩ (h13) ?_
  refine qv_aload rfl ?_
  refine qv_gi ly_163 ⟨rfl, rfl, rfl⟩ (p2) ?_
  refine qv_icmp_ltNf rfl rfl (by omega) (by omega) (by omega) (nx := 1) rfl ?_
  refine qW.blk rfl ?_
  refine qv_iconst (v := (-1)) rfl ?_
  refine qv_goto (tgt := 3) rfl ?_
  refine qW.blk rfl ?_
  refine qv_iret (rfl) ?_
  exact ⟨rfl, rfl⟩
theorem w_take_y (hP : pm_np PR) {d : Nat} (hd : 2 ≤ d) {a c : Nat} (hB : PB s dd z n B) (hdd : dd < 8) (hz : z ≤ 120) (h13 : qF s 163 13 = nI a) (hc7 : c < 128) (hc : isc B z c a) (hk : Q (some (.int 1)) (uF (uF s 163 14 0) 163 13 (nI (a + 1)))) : qP X PR d 183 [.ref 163, .int (nI c)] s Q := by
  have e := hc.2
  have ha := hc.1
  refine qP.of (L := [_, _]) (by omega) (hP _ rfl) ms_Model_take rfl ?_
  show qW X PR (d - 1) (some .boolean) cd_Model_take 0 _ _ _ _
  refine qW.blk rfl ?_
  refine qv_aload rfl ?_
  refine qv_aload rfl ?_
  refine qv_virtE (ly_163.rcv _) sg_Model_here rfl rfl (r_here_y hP (by omega) hB hdd hz h13 ha) ?_
  refine qv_iload rfl ?_
  refine qv_icmp_eqNt rfl rfl (by omega) (by omega) (by omega) (tgt := 2) rfl ?_
  refine qW.blk rfl ?_
  refine qv_iconst (v := 0) rfl ?_
  refine qv_nil (nx := 3) rfl ?_
  refine qW.blk rfl ?_
  refine qv_pi ly_163 ⟨rfl, rfl, rfl⟩ (rfl) ?_
  refine qv_aload rfl ?_
  refine qv_dup rfl ?_
  refine qv_gi ly_163 ⟨rfl, rfl, rfl⟩ ((qF_uFk (by decide)).trans h13) ?_
  refine qv_aload rfl ?_
  refine qv_gi ly_163 ⟨rfl, rfl, rfl⟩ (rfl) ?_
  refine qv_if_eq_t (qF_uFs) (tgt := 5) rfl ?_
  refine qW.blk rfl ?_
  refine qv_iconst (v := 1) rfl ?_
  refine qv_nil (nx := 6) rfl ?_
  refine qW.blk rfl ?_
  refine qv_iaddN (q := 1) rfl rfl ?_
  refine qv_pi ly_163 ⟨rfl, rfl, rfl⟩ (rfl) ?_
  refine qv_aload rfl ?_
  refine qv_gi ly_163 ⟨rfl, rfl, rfl⟩ ((qF_uFk (by decide)).trans qF_uFs) ?_
  refine qv_if_ne_f (fun q => q rfl) (nx := 7) rfl ?_
  refine qW.blk rfl ?_
  refine qv_iconst (v := 1) rfl ?_
  refine qv_goto (tgt := 9) rfl ?_
  refine qW.blk rfl ?_
  refine qv_iret (by first | exact bI_ret | rfl) ?_
  exact hk
theorem w_take_n (hP : pm_np PR) {d : Nat} (hd : 2 ≤ d) {a c : Nat} (hB : PB s dd z n B) (hdd : dd < 8) (hz : z ≤ 120) (h13 : qF s 163 13 = nI a) (haz : a ≤ z) (hc7 : c < 128) (hc : ¬ isc B z c a) (hk : Q (some (.int 0)) (uF (uF s 163 14 1) 163 13 (nI a))) : qP X PR d 183 [.ref 163, .int (nI c)] s Q := by
  refine qP.of (L := [_, _]) (by omega) (hP _ rfl) ms_Model_take rfl ?_
  show qW X PR (d - 1) (some .boolean) cd_Model_take 0 _ _ _ _
  by_cases ha : a < z
  · have hne : B a ≠ c := fun q => hc ⟨ha, q⟩
    have hb := (hB.2.2.2 a ha).1
    refine qW.blk rfl ?_
    refine qv_aload rfl ?_
    refine qv_aload rfl ?_
    refine qv_virtE (ly_163.rcv _) sg_Model_here rfl rfl (r_here_y hP (by omega) hB hdd hz h13 ha) ?_
    refine qv_iload rfl ?_
    refine qv_icmp_eqNf rfl rfl (by omega) (by omega) (by omega) (nx := 1) rfl ?_
    refine qW.blk rfl ?_
    refine qv_iconst (v := 1) rfl ?_
    refine qv_goto (tgt := 3) rfl ?_
    refine qW.blk rfl ?_
    refine qv_pi ly_163 ⟨rfl, rfl, rfl⟩ (rfl) ?_
    refine qv_aload rfl ?_
    refine qv_dup rfl ?_
    refine qv_gi ly_163 ⟨rfl, rfl, rfl⟩ ((qF_uFk (by decide)).trans h13) ?_
    refine qv_aload rfl ?_
    refine qv_gi ly_163 ⟨rfl, rfl, rfl⟩ (rfl) ?_
    refine qv_if_eq_f (fun q => absurd (q.symm.trans qF_uFs) (by decide)) (nx := 4) rfl ?_
    refine qW.blk rfl ?_
    refine qv_iconst (v := 0) rfl ?_
    refine qv_goto (tgt := 6) rfl ?_
    refine qW.blk rfl ?_
    refine qv_iaddN (q := 0) rfl rfl ?_
    refine qv_pi ly_163 ⟨rfl, rfl, rfl⟩ (rfl) ?_
    refine qv_aload rfl ?_
    refine qv_gi ly_163 ⟨rfl, rfl, rfl⟩ ((qF_uFk (by decide)).trans qF_uFs) ?_
    refine qv_if_ne_t (by decide) (tgt := 8) rfl ?_
    refine qW.blk rfl ?_
    refine qv_iconst (v := 0) rfl ?_
    refine qv_nil (nx := 9) rfl ?_
    refine qW.blk rfl ?_
    refine qv_iret (by first | exact bI_ret | rfl) ?_
    exact hk
  · have hne : ¬ (-1 : Int32) = nI c := fun q => nI_ne_m1 (show c < 100 by
      refine Classical.byContradiction fun w => ?_
      have e1 := congrArg Int32.toInt q
      rw [nI_toInt (by omega)] at e1
      have : (-1 : Int32).toInt = -1 := by decide
      rw [this] at e1
      omega) q.symm
    refine qW.blk rfl ?_
    refine qv_aload rfl ?_
    refine qv_aload rfl ?_
    refine qv_virtE (ly_163.rcv _) sg_Model_here rfl rfl (r_here_n hP (by omega) hB hz h13 ha haz) ?_
    refine qv_iload rfl ?_
    refine qv_icmp_eq_f (hne) (nx := 1) rfl ?_
    refine qW.blk rfl ?_
    refine qv_iconst (v := 1) rfl ?_
    refine qv_goto (tgt := 3) rfl ?_
    refine qW.blk rfl ?_
    refine qv_pi ly_163 ⟨rfl, rfl, rfl⟩ (rfl) ?_
    refine qv_aload rfl ?_
    refine qv_dup rfl ?_
    refine qv_gi ly_163 ⟨rfl, rfl, rfl⟩ ((qF_uFk (by decide)).trans h13) ?_
    refine qv_aload rfl ?_
    refine qv_gi ly_163 ⟨rfl, rfl, rfl⟩ (rfl) ?_
    refine qv_if_eq_f (fun q => absurd (q.symm.trans qF_uFs) (by decide)) (nx := 4) rfl ?_
    refine qW.blk rfl ?_
    refine qv_iconst (v := 0) rfl ?_
    refine qv_goto (tgt := 6) rfl ?_
    refine qW.blk rfl ?_
    refine qv_iaddN (q := 0) rfl rfl ?_
    refine qv_pi ly_163 ⟨rfl, rfl, rfl⟩ (rfl) ?_
    refine qv_aload rfl ?_
    refine qv_gi ly_163 ⟨rfl, rfl, rfl⟩ ((qF_uFk (by decide)).trans qF_uFs) ?_
    refine qv_if_ne_t (by decide) (tgt := 8) rfl ?_
    refine qW.blk rfl ?_
    refine qv_iconst (v := 0) rfl ?_
    refine qv_nil (nx := 9) rfl ?_
    refine qW.blk rfl ?_
    refine qv_iret (by first | exact bI_ret | rfl) ?_
    exact hk
theorem w_mend_y (hP : pm_np PR) {d : Nat} (hd : 2 ≤ d) {a : Nat} (hB : PB s dd z n B) (hdd : dd < 8) (hz : z ≤ 120) (hn1 : 1 ≤ n) (hn : n ≤ 7) (h13 : qF s 163 13 = nI a) (hc : isd B z n a) (hk : Q (some (.int (nI (B a - 48)))) (uF (uF s 163 14 0) 163 13 (nI (a + 1)))) : qP X PR d 182 [.ref 163] s Q := by
  obtain ⟨ha, h1, h2⟩ := hc
  have hi : nI 48 ≤ nI (B a) ∧ nI (B a) ≤ nI (48 + n - 1) := (w_iff (by omega) (by omega) (by omega)).mpr ⟨h1, by omega⟩
  refine qP.of (L := [_, _]) (by omega) (hP _ rfl) ms_Model_readEnd rfl ?_
  show qW X PR (d - 1) (some .int) cd_Model_readEnd 0 _ _ _ _
  refine qW.blk rfl ?_
  refine qv_aload rfl ?_
  refine qv_virtE (ly_163.rcv _) sg_Model_here rfl rfl (r_here_y hP (by omega) hB hdd hz h13 ha) ?_
  refine qv_istore (L' := [_, _]) rfl ?_
  refine qv_aload rfl ?_
  refine qv_iload rfl ?_
  refine qv_iconst (v := 48) rfl ?_
  refine qv_iconst (v := 48) rfl ?_
  refine qv_aload rfl ?_
  refine qv_gr ly_163 ⟨rfl, rfl, rfl⟩ (by omega) ?_
  refine qv_iconst (v := 0) rfl ?_
  refine qv_ia (j := 0) ly_164 rfl (by omega) (by decide) (hB.2.2.1) ?_
  refine qv_iaddN (p := 48) rfl rfl ?_
  refine qv_iconst (v := 1) rfl ?_
  refine qv_isubN (q := 1) rfl rfl (by omega) ?_
  refine qv_staticE sg_Model_in rfl (r_Model_in hP (by omega) (nI (B a)) (nI 48) (nI (48 + n - 1)) _) ?_
  refine qv_if_ne_t (bI_ne.mpr (hi)) (tgt := 2) rfl ?_
  refine qW.blk rfl ?_
  refine qv_iconst (v := 0) rfl ?_
  refine qv_nil (nx := 3) rfl ?_
  refine qW.blk rfl ?_
  refine qv_pi ly_163 ⟨rfl, rfl, rfl⟩ (rfl) ?_
  refine qv_aload rfl ?_
  refine qv_dup rfl ?_
  refine qv_gi ly_163 ⟨rfl, rfl, rfl⟩ ((qF_uFk (by decide)).trans h13) ?_
  refine qv_aload rfl ?_
  refine qv_gi ly_163 ⟨rfl, rfl, rfl⟩ (rfl) ?_
  refine qv_if_eq_t (qF_uFs) (tgt := 5) rfl ?_
  refine qW.blk rfl ?_
  refine qv_iconst (v := 1) rfl ?_
  refine qv_nil (nx := 6) rfl ?_
  refine qW.blk rfl ?_
  refine qv_iaddN (q := 1) rfl rfl ?_
  refine qv_pi ly_163 ⟨rfl, rfl, rfl⟩ (rfl) ?_
  refine qv_iload rfl ?_
  refine qv_iconst (v := 48) rfl ?_
  refine qv_isubN (q := 48) rfl rfl (by omega) ?_
  refine qv_iret (rfl) ?_
  exact hk
theorem w_mend_n (hP : pm_np PR) {d : Nat} (hd : 2 ≤ d) {a : Nat} (hB : PB s dd z n B) (hdd : dd < 8) (hz : z ≤ 120) (hn1 : 1 ≤ n) (hn : n ≤ 7) (h13 : qF s 163 13 = nI a) (haz : a ≤ z) (hc : ¬ isd B z n a) (hk : ∀ v, Q (some (.int v)) (uF (uF s 163 14 1) 163 13 (nI a))) : qP X PR d 182 [.ref 163] s Q := by
  refine qP.of (L := [_, _]) (by omega) (hP _ rfl) ms_Model_readEnd rfl ?_
  show qW X PR (d - 1) (some .int) cd_Model_readEnd 0 _ _ _ _
  by_cases ha : a < z
  · have hb := (hB.2.2.2 a ha).1
    have hi : ¬ (nI 48 ≤ nI (B a) ∧ nI (B a) ≤ nI (48 + n - 1)) := fun q => by
      have := (w_iff (by omega) (by omega) (by omega)).mp q
      exact hc ⟨ha, this.1, by omega⟩
    refine qW.blk rfl ?_
    refine qv_aload rfl ?_
    refine qv_virtE (ly_163.rcv _) sg_Model_here rfl rfl (r_here_y hP (by omega) hB hdd hz h13 ha) ?_
    refine qv_istore (L' := [_, _]) rfl ?_
    refine qv_aload rfl ?_
    refine qv_iload rfl ?_
    refine qv_iconst (v := 48) rfl ?_
    refine qv_iconst (v := 48) rfl ?_
    refine qv_aload rfl ?_
    refine qv_gr ly_163 ⟨rfl, rfl, rfl⟩ (by omega) ?_
    refine qv_iconst (v := 0) rfl ?_
    refine qv_ia (j := 0) ly_164 rfl (by omega) (by decide) (hB.2.2.1) ?_
    refine qv_iaddN (p := 48) rfl rfl ?_
    refine qv_iconst (v := 1) rfl ?_
    refine qv_isubN (q := 1) rfl rfl (by omega) ?_
    refine qv_staticE sg_Model_in rfl (r_Model_in hP (by omega) (nI (B a)) (nI 48) (nI (48 + n - 1)) _) ?_
    refine qv_if_ne_f (fun zq => zq (bI_f (hi))) (nx := 1) rfl ?_
    refine qW.blk rfl ?_
    refine qv_iconst (v := 1) rfl ?_
    refine qv_goto (tgt := 3) rfl ?_
    refine qW.blk rfl ?_
    refine qv_pi ly_163 ⟨rfl, rfl, rfl⟩ (rfl) ?_
    refine qv_aload rfl ?_
    refine qv_dup rfl ?_
    refine qv_gi ly_163 ⟨rfl, rfl, rfl⟩ ((qF_uFk (by decide)).trans h13) ?_
    refine qv_aload rfl ?_
    refine qv_gi ly_163 ⟨rfl, rfl, rfl⟩ (rfl) ?_
    refine qv_if_eq_f (fun q => absurd (q.symm.trans qF_uFs) (by decide)) (nx := 4) rfl ?_
    refine qW.blk rfl ?_
    refine qv_iconst (v := 0) rfl ?_
    refine qv_goto (tgt := 6) rfl ?_
    refine qW.blk rfl ?_
    refine qv_iaddN (q := 0) rfl rfl ?_
    refine qv_pi ly_163 ⟨rfl, rfl, rfl⟩ (rfl) ?_
    refine qv_iload rfl ?_
    refine qv_iconst (v := 48) rfl ?_
    refine qv_isub ?_
    refine qv_iret (rfl) ?_
    exact hk _
  · have hi : ¬ (nI 48 ≤ (-1 : Int32) ∧ (-1 : Int32) ≤ nI (48 + n - 1)) := fun q => absurd q.1 (by decide)
    refine qW.blk rfl ?_
    refine qv_aload rfl ?_
    refine qv_virtE (ly_163.rcv _) sg_Model_here rfl rfl (r_here_n hP (by omega) hB hz h13 ha haz) ?_
    refine qv_istore (L' := [_, _]) rfl ?_
    refine qv_aload rfl ?_
    refine qv_iload rfl ?_
    refine qv_iconst (v := 48) rfl ?_
    refine qv_iconst (v := 48) rfl ?_
    refine qv_aload rfl ?_
    refine qv_gr ly_163 ⟨rfl, rfl, rfl⟩ (by omega) ?_
    refine qv_iconst (v := 0) rfl ?_
    refine qv_ia (j := 0) ly_164 rfl (by omega) (by decide) (hB.2.2.1) ?_
    refine qv_iaddN (p := 48) rfl rfl ?_
    refine qv_iconst (v := 1) rfl ?_
    refine qv_isubN (q := 1) rfl rfl (by omega) ?_
    refine qv_staticE sg_Model_in rfl (r_Model_in hP (by omega) (-1) (nI 48) (nI (48 + n - 1)) _) ?_
    refine qv_if_ne_f (fun zq => zq (bI_f (hi))) (nx := 1) rfl ?_
    refine qW.blk rfl ?_
    refine qv_iconst (v := 1) rfl ?_
    refine qv_goto (tgt := 3) rfl ?_
    refine qW.blk rfl ?_
    refine qv_pi ly_163 ⟨rfl, rfl, rfl⟩ (rfl) ?_
    refine qv_aload rfl ?_
    refine qv_dup rfl ?_
    refine qv_gi ly_163 ⟨rfl, rfl, rfl⟩ ((qF_uFk (by decide)).trans h13) ?_
    refine qv_aload rfl ?_
    refine qv_gi ly_163 ⟨rfl, rfl, rfl⟩ (rfl) ?_
    refine qv_if_eq_f (fun q => absurd (q.symm.trans qF_uFs) (by decide)) (nx := 4) rfl ?_
    refine qW.blk rfl ?_
    refine qv_iconst (v := 0) rfl ?_
    refine qv_goto (tgt := 6) rfl ?_
    refine qW.blk rfl ?_
    refine qv_iaddN (q := 0) rfl rfl ?_
    refine qv_pi ly_163 ⟨rfl, rfl, rfl⟩ (rfl) ?_
    refine qv_iload rfl ?_
    refine qv_iconst (v := 48) rfl ?_
    refine qv_isub ?_
    refine qv_iret (rfl) ?_
    exact hk _
theorem w_madd (hP : pm_np PR) {d : Nat} (hd : 1 ≤ d) {c : Nat} (k l r x y : Int32) (h15 : qF s 163 15 = nI c) (hc : c < 110) (hk : Q (some (.int (nI c))) (uF (uE (uE (uE (uE (uE s 173 c k) 174 c l) 175 c r) 176 c x) 177 c y) 163 15 (nI (c + 1)))) : qP X PR d 184 [.ref 163, .int k, .int l, .int r, .int x, .int y] s Q := by
  refine qP.of (L := [_, _, _, _, _, _]) (by omega) (hP _ rfl) ms_Model_add rfl ?_
  show qW X PR (d - 1) (some .int) cd_Model_add 0 _ _ _ _
  refine qW.blk rfl ?_
  refine qv_aload rfl ?_
  refine qv_gr ly_163 ⟨rfl, rfl, rfl⟩ (by omega) ?_
  refine qv_aload rfl ?_
  refine qv_gi ly_163 ⟨rfl, rfl, rfl⟩ (h15) ?_
  refine qv_iload rfl ?_
  refine qv_is ly_173 rfl (by omega) (by decide) ?_
  refine qv_aload rfl ?_
  refine qv_gr ly_163 ⟨rfl, rfl, rfl⟩ (by omega) ?_
  refine qv_aload rfl ?_
  refine qv_gi ly_163 ⟨rfl, rfl, rfl⟩ (h15) ?_
  refine qv_iload rfl ?_
  refine qv_is ly_174 rfl (by omega) (by decide) ?_
  refine qv_aload rfl ?_
  refine qv_gr ly_163 ⟨rfl, rfl, rfl⟩ (by omega) ?_
  refine qv_aload rfl ?_
  refine qv_gi ly_163 ⟨rfl, rfl, rfl⟩ (h15) ?_
  refine qv_iload rfl ?_
  refine qv_is ly_175 rfl (by omega) (by decide) ?_
  refine qv_aload rfl ?_
  refine qv_gr ly_163 ⟨rfl, rfl, rfl⟩ (by omega) ?_
  refine qv_aload rfl ?_
  refine qv_gi ly_163 ⟨rfl, rfl, rfl⟩ (h15) ?_
  refine qv_iload rfl ?_
  refine qv_is ly_176 rfl (by omega) (by decide) ?_
  refine qv_aload rfl ?_
  refine qv_gr ly_163 ⟨rfl, rfl, rfl⟩ (by omega) ?_
  refine qv_aload rfl ?_
  refine qv_gi ly_163 ⟨rfl, rfl, rfl⟩ (h15) ?_
  refine qv_iload rfl ?_
  refine qv_is ly_177 rfl (by omega) (by decide) ?_
  refine qv_aload rfl ?_
  refine qv_dup rfl ?_
  refine qv_gi ly_163 ⟨rfl, rfl, rfl⟩ (h15) ?_
  refine qv_iconst (v := 1) rfl ?_
  refine qv_iaddN (q := 1) rfl rfl ?_
  refine qv_pi ly_163 ⟨rfl, rfl, rfl⟩ (rfl) ?_
  refine qv_aload rfl ?_
  refine qv_gi ly_163 ⟨rfl, rfl, rfl⟩ (qF_uFs) ?_
  refine qv_iconst (v := 1) rfl ?_
  refine qv_isubN (q := 1) rfl rfl (by omega) ?_
  refine qv_iret (rfl) ?_
  exact hk
end
/-- the reference's state while it reads: at, nodes, QUESTIONS, how many open, done -/
def RS0 (s : QST) (a c q o dn : Nat) : Prop := qF s 163 13 = nI a ∧ qF s 163 14 = 0 ∧ qF s 163 15 = nI c ∧ qF s 163 16 = nI q ∧ qF s 163 26 = nI o ∧ qF s 163 27 = nI dn
/-- its nodes -/
def ndr (s : QST) (c : Nat) (u : TR) : Prop := ∀ j, j < c → qE s 173 j = nI (u j).1 ∧ (¬ (u j).1 = 0 → qE s 174 j = nI (u j).2.1 ∧ qE s 175 j = nI (u j).2.2.1) ∧ qE s 176 j = nI (u j).2.2.2.1 ∧ ((u j).1 = 2 → qE s 177 j = nI (u j).2.2.2.2)
/-- what is open below o stays -/
def stk (s s' : QST) (o : Nat) : Prop := ∀ i, i < o → qE s' 178 i = qE s 178 i ∧ qE s' 179 i = qE s 179 i ∧ qE s' 180 i = qE s 180 i ∧ qE s' 181 i = qE s 181 i
theorem stk.rf (s : QST) (o : Nat) : stk s s o := fun _ _ => ⟨rfl, rfl, rfl, rfl⟩
theorem stk.trans {s t u : QST} {o : Nat} (h : stk s t o) (g : stk t u o) : stk s u o := fun i hi => ⟨(g i hi).1.trans (h i hi).1, (g i hi).2.1.trans (h i hi).2.1, (g i hi).2.2.1.trans (h i hi).2.2.1, (g i hi).2.2.2.trans (h i hi).2.2.2⟩
theorem stk.mono {s t : QST} {o o' : Nat} (h : stk s t o) (ho : o' ≤ o) : stk s t o' := fun i hi => h i (by omega)
theorem stk.of {s t : QST} {o : Nat} (h : ∀ c, 178 ≤ c → c ≤ 181 → qE t c = qE s c) : stk s t o := fun i _ => ⟨by rw [h 178 (by decide) (by decide)], by rw [h 179 (by decide) (by decide)], by rw [h 180 (by decide) (by decide)], by rw [h 181 (by decide) (by decide)]⟩
/-- what is open at o -/
def stp (s : QST) (o kd x y : Nat) (lf : Int32) : Prop := qE s 178 o = nI kd ∧ qE s 179 o = lf ∧ qE s 180 o = nI x ∧ (kd = 2 → qE s 181 o = nI y)
theorem stp.fr {s t : QST} {o o' kd x y : Nat} {lf : Int32} (h : stp s o kd x y lf) (g : stk s t o') (ho : o < o') : stp t o kd x y lf := by
  obtain ⟨g1, g2, g3, g4⟩ := g o ho
  exact ⟨g1.trans h.1, g2.trans h.2.1, g3.trans h.2.2.1, fun k => g4.trans (h.2.2.2 k)⟩
theorem ndr.cg {s t : QST} {c : Nat} {u : TR} (h : ndr s c u) (e : ∀ k, 173 ≤ k → k ≤ 177 → qE t k = qE s k) : ndr t c u := by
  intro j hj
  rw [e 173 (by decide) (by decide), e 174 (by decide) (by decide), e 175 (by decide) (by decide), e 176 (by decide) (by decide), e 177 (by decide) (by decide)]
  exact h j hj
/-- a node is added -/
theorem ndr.add {s : QST} {c : Nat} {u : TR} (h : ndr s c u) {k l r x y : Int32} {t : Nat × Nat × Nat × Nat × Nat} (e1 : k = nI t.1) (e2 : ¬ t.1 = 0 → l = nI t.2.1 ∧ r = nI t.2.2.1) (e3 : x = nI t.2.2.2.1) (e4 : t.1 = 2 → y = nI t.2.2.2.2) : ndr (uE (uE (uE (uE (uE s 173 c k) 174 c l) 175 c r) 176 c x) 177 c y) (c + 1) (updN u c t) := by
  intro j hj
  have f173 : ∀ j, qE (uE (uE (uE (uE (uE s 173 c k) 174 c l) 175 c r) 176 c x) 177 c y) 173 j = qE (uE s 173 c k) 173 j := fun j => by rw [qE_uEc (by decide), qE_uEc (by decide), qE_uEc (by decide), qE_uEc (by decide)]
  have f174 : ∀ j, qE (uE (uE (uE (uE (uE s 173 c k) 174 c l) 175 c r) 176 c x) 177 c y) 174 j = qE (uE (uE s 173 c k) 174 c l) 174 j := fun j => by rw [qE_uEc (by decide), qE_uEc (by decide), qE_uEc (by decide)]
  have f175 : ∀ j, qE (uE (uE (uE (uE (uE s 173 c k) 174 c l) 175 c r) 176 c x) 177 c y) 175 j = qE (uE (uE (uE s 173 c k) 174 c l) 175 c r) 175 j := fun j => by rw [qE_uEc (by decide), qE_uEc (by decide)]
  have f176 : ∀ j, qE (uE (uE (uE (uE (uE s 173 c k) 174 c l) 175 c r) 176 c x) 177 c y) 176 j = qE (uE (uE (uE (uE s 173 c k) 174 c l) 175 c r) 176 c x) 176 j := fun j => by rw [qE_uEc (by decide)]
  rw [f173, f174, f175, f176]
  by_cases e : j = c
  · subst e
    rw [updN_s, qE_uEs, qE_uEs, qE_uEs, qE_uEs, qE_uEs]
    exact ⟨e1, e2, e3, e4⟩
  · obtain ⟨a1, a2, a3, a4⟩ := h j (by omega)
    rw [updN_n e, qE_uEk e, qE_uEk e, qE_uEk e, qE_uEk e, qE_uEk e]
    refine ⟨a1, fun k0 => ⟨?_, ?_⟩, ?_, fun k0 => ?_⟩
    · rw [qE_uEc (by decide)]; exact (a2 k0).1
    · rw [qE_uEc (by decide), qE_uEc (by decide)]; exact (a2 k0).2
    · rw [qE_uEc (by decide), qE_uEc (by decide), qE_uEc (by decide)]; exact a3
    · rw [qE_uEc (by decide), qE_uEc (by decide), qE_uEc (by decide), qE_uEc (by decide)]; exact a4 k0
section
variable {X : pm_X} {PR : pm_P} {s : QST} {Q : QPost} {dd z n : Nat} {B : Nat → Nat}
theorem w_begin6 (hP : pm_np PR) {d : Nat} (hd : 3 ≤ d) {a c q dn : Nat} (hR : RS0 s a c q 6 dn) (k : Int32) (hk : ∀ s', pf s s' → qF s' 163 13 = nI a → qF s' 163 14 = 1 → Q none s') : qP X PR d 181 [.ref 163, .int k] s Q := by
  obtain ⟨h13, h14, h15, h16, h26, h27⟩ := hR
  refine qP.of (L := [_, _]) (by omega) (hP _ rfl) ms_Model_begin rfl ?_
  show qW X PR (d - 1) (none) cd_Model_begin 0 _ _ _ _
  refine qW.blk rfl ?_
  refine qv_aload rfl ?_
  refine qv_aload rfl ?_
  refine qv_gi ly_163 ⟨rfl, rfl, rfl⟩ (h26) ?_
  refine qv_iconst (v := 6) rfl ?_
  refine qv_icmp_neNf (q := 6) rfl rfl (by omega) (by omega) (by omega) (nx := 1) rfl ?_
  refine qW.blk rfl ?_
  refine qv_iconst (v := 1) rfl ?_
  refine qv_goto (tgt := 3) rfl ?_
  refine qW.blk rfl ?_
  refine qv_pi ly_163 ⟨rfl, rfl, rfl⟩ (rfl) ?_
  refine qv_aload rfl ?_
  refine qv_gi ly_163 ⟨rfl, rfl, rfl⟩ (rfl) ?_
  refine qv_if_eq_f (fun q => absurd (q.symm.trans qF_uFs) (by decide)) (nx := 4) rfl ?_
  refine qW.blk rfl ?_
  refine qv_ret rfl ?_
  exact hk _ ((pf.rf s).sF (by omega)) (by rw [qF_uFk (by decide)]; exact h13) qF_uFs
theorem w_begin1 (hP : pm_np PR) {d : Nat} (hd : 3 ≤ d) {a c q o : Nat} {u : TR} (hR : RS0 s a c q o 0) (hN : ndr s c u) (ho : o < 6) (hk : ∀ s', pf s s' → RS0 s' (a + 1) c (q + 1) (o + 1) 0 → ndr s' c u → stk s s' o → stp s' o 1 q 0 (-1) → Q none s') : qP X PR d 181 [.ref 163, .int (nI 1)] s Q := by
  obtain ⟨h13, h14, h15, h16, h26, h27⟩ := hR
  have g26 : qF (uF (uF s 163 14 0) 163 13 (nI (a + 1))) 163 26 = nI o := by rw [qF_uFk (by decide), qF_uFk (by decide)]; exact h26
  have g16 : qF (uF (uF s 163 14 0) 163 13 (nI (a + 1))) 163 16 = nI q := by rw [qF_uFk (by decide), qF_uFk (by decide)]; exact h16
  have k26 : qF (uF (uF (uF s 163 14 0) 163 13 (nI (a + 1))) 163 16 (nI (q + 1))) 163 26 = nI o := by rw [qF_uFk (by decide)]; exact g26
  refine qP.of (L := [_, _]) (by omega) (hP _ rfl) ms_Model_begin rfl ?_
  show qW X PR (d - 1) (none) cd_Model_begin 0 _ _ _ _
  refine qW.blk rfl ?_
  refine qv_aload rfl ?_
  refine qv_aload rfl ?_
  refine qv_gi ly_163 ⟨rfl, rfl, rfl⟩ (h26) ?_
  refine qv_iconst (v := 6) rfl ?_
  refine qv_icmp_neNt (q := 6) rfl rfl (by omega) (by omega) (by omega) (tgt := 2) rfl ?_
  refine qW.blk rfl ?_
  refine qv_iconst (v := 0) rfl ?_
  refine qv_nil (nx := 3) rfl ?_
  refine qW.blk rfl ?_
  refine qv_pi ly_163 ⟨rfl, rfl, rfl⟩ (rfl) ?_
  refine qv_aload rfl ?_
  refine qv_gi ly_163 ⟨rfl, rfl, rfl⟩ (rfl) ?_
  refine qv_if_eq_t (qF_uFs) (tgt := 5) rfl ?_
  refine qW.blk rfl ?_
  refine qv_aload rfl ?_
  refine qv_dup rfl ?_
  refine qv_gi ly_163 ⟨rfl, rfl, rfl⟩ ((qF_uFk (by decide)).trans h13) ?_
  refine qv_iconst (v := 1) rfl ?_
  refine qv_iaddN (q := 1) rfl rfl ?_
  refine qv_pi ly_163 ⟨rfl, rfl, rfl⟩ (rfl) ?_
  refine qv_aload rfl ?_
  refine qv_gr ly_163 ⟨rfl, rfl, rfl⟩ (by omega) ?_
  refine qv_aload rfl ?_
  refine qv_gi ly_163 ⟨rfl, rfl, rfl⟩ (g26) ?_
  refine qv_iload rfl ?_
  refine qv_is ly_178 rfl (by omega) (by decide) ?_
  refine qv_aload rfl ?_
  refine qv_gr ly_163 ⟨rfl, rfl, rfl⟩ (by omega) ?_
  refine qv_aload rfl ?_
  refine qv_gi ly_163 ⟨rfl, rfl, rfl⟩ (g26) ?_
  refine qv_iconst (v := (-1)) rfl ?_
  refine qv_is ly_179 rfl (by omega) (by decide) ?_
  refine qv_aload rfl ?_
  refine qv_gr ly_163 ⟨rfl, rfl, rfl⟩ (by omega) ?_
  refine qv_aload rfl ?_
  refine qv_gi ly_163 ⟨rfl, rfl, rfl⟩ (g26) ?_
  refine qv_iload rfl ?_
  refine qv_iconst (v := 1) rfl ?_
  refine qv_icmp_neNf (q := 1) rfl rfl (by omega) (by omega) (by omega) (nx := 6) rfl ?_
  refine qW.blk rfl ?_
  refine qv_aload rfl ?_
  refine qv_gi ly_163 ⟨rfl, rfl, rfl⟩ (g16) ?_
  refine qv_goto (tgt := 8) rfl ?_
  refine qW.blk rfl ?_
  refine qv_is ly_180 rfl (by omega) (by decide) ?_
  refine qv_aload rfl ?_
  refine qv_dup rfl ?_
  refine qv_gi ly_163 ⟨rfl, rfl, rfl⟩ (g16) ?_
  refine qv_iload rfl ?_
  refine qv_iconst (v := 1) rfl ?_
  refine qv_icmp_neNf (q := 1) rfl rfl (by omega) (by omega) (by omega) (nx := 9) rfl ?_
  refine qW.blk rfl ?_
  refine qv_iconst (v := 1) rfl ?_
  refine qv_goto (tgt := 11) rfl ?_
  refine qW.blk rfl ?_
  refine qv_iaddN (q := 1) rfl rfl ?_
  refine qv_pi ly_163 ⟨rfl, rfl, rfl⟩ (rfl) ?_
  refine qv_iload rfl ?_
  refine qv_iconst (v := 2) rfl ?_
  refine qv_icmp_neNt (q := 2) rfl rfl (by omega) (by omega) (by omega) (tgt := 19) rfl ?_
  refine qW.blk rfl ?_
  refine qv_aload rfl ?_
  refine qv_dup rfl ?_
  refine qv_gi ly_163 ⟨rfl, rfl, rfl⟩ (k26) ?_
  refine qv_iconst (v := 1) rfl ?_
  refine qv_iaddN (q := 1) rfl rfl ?_
  refine qv_pi ly_163 ⟨rfl, rfl, rfl⟩ (rfl) ?_
  refine qv_ret rfl ?_
  refine hk _ ((((((((pf.rf s).sF (by omega)).sF (by omega)).sE (by omega)).sE (by omega)).sE (by omega)).sF (by omega)).sF (by omega)) ⟨?_, ?_, ?_, ?_, qF_uFs, ?_⟩ (hN.cg (fun k h1 h2 => by rw [qE_uF, qE_uF, qE_uEc (by omega), qE_uEc (by omega), qE_uEc (by omega)]; rfl)) (fun i hi => ⟨?_, ?_, ?_, ?_⟩) ⟨?_, ?_, ?_, fun h => absurd h (by decide)⟩
  · rw [qF_uFk (by decide), qF_uFk (by decide), qF_uE, qF_uE, qF_uE, qF_uFs]
  · rw [qF_uFk (by decide), qF_uFk (by decide), qF_uE, qF_uE, qF_uE, qF_uFk (by decide), qF_uFs]
  · rw [qF_uFk (by decide), qF_uFk (by decide), qF_uE, qF_uE, qF_uE, qF_uFk (by decide), qF_uFk (by decide)]; exact h15
  · rw [qF_uFk (by decide), qF_uFs]
  · rw [qF_uFk (by decide), qF_uFk (by decide), qF_uE, qF_uE, qF_uE, qF_uFk (by decide), qF_uFk (by decide)]; exact h27
  · rw [qE_uF, qE_uF, qE_uEc (by decide), qE_uEc (by decide), qE_uEk (by omega)]; rfl
  · rw [qE_uF, qE_uF, qE_uEc (by decide), qE_uEk (by omega), qE_uEc (by decide)]; rfl
  · rw [qE_uF, qE_uF, qE_uEk (by omega), qE_uEc (by decide), qE_uEc (by decide)]; rfl
  · rw [qE_uF, qE_uF, qE_uEc (by decide), qE_uEc (by decide), qE_uEc (by decide)]; rfl
  · rw [qE_uF, qE_uF, qE_uEc (by decide), qE_uEc (by decide), qE_uEs]
  · rw [qE_uF, qE_uF, qE_uEc (by decide), qE_uEs]
  · rw [qE_uF, qE_uF, qE_uEs]
/-- a choice begins: its ENDS are read, or it goes wrong at f -/
theorem w_begin2 (hP : pm_np PR) {d : Nat} (hd : 4 ≤ d) {a c q o : Nat} {u : TR} (hB : PB s dd z n B) (hdd : dd < 8) (hz : z ≤ 120) (hn1 : 1 ≤ n) (hn : n ≤ 7) (hR : RS0 s a c q o 0) (hN : ndr s c u) (ho : o < 6) (haz : a < z) (hbad : ∀ f, (¬ isd B z n (a + 1) ∧ f = a + 1) ∨ (isd B z n (a + 1) ∧ ¬ isc B z 62 (a + 2) ∧ f = a + 2) ∨ (isd B z n (a + 1) ∧ isc B z 62 (a + 2) ∧ ¬ isd B z n (a + 3) ∧ f = a + 3) ∨ (isd B z n (a + 1) ∧ isc B z 62 (a + 2) ∧ isd B z n (a + 3) ∧ ¬ isc B z 58 (a + 4) ∧ f = a + 4) → ∀ s', pf s s' → qF s' 163 13 = nI f → qF s' 163 14 = 1 → Q none s') (hk : isd B z n (a + 1) → isc B z 62 (a + 2) → isd B z n (a + 3) → isc B z 58 (a + 4) → ∀ s', pf s s' → RS0 s' (a + 5) c q (o + 1) 0 → ndr s' c u → stk s s' o → stp s' o 2 (B (a + 1) - 48) (B (a + 3) - 48) (-1) → Q none s') : qP X PR d 181 [.ref 163, .int (nI 2)] s Q := by
  obtain ⟨h13, h14, h15, h16, h26, h27⟩ := hR
  -- behind the first lines
  obtain ⟨s1, hs1⟩ : ∃ s1, s1 = uF (uE (uE (uE (uF (uF s 163 14 0) 163 13 (nI (a + 1))) 178 o (nI 2)) 179 o (-1)) 180 o 0) 163 16 (nI q) := ⟨_, rfl⟩
  have F1 : pf s s1 := by rw [hs1]; exact ((((((pf.rf s).sF (by omega)).sF (by omega)).sE (by omega)).sE (by omega)).sE (by omega)).sF (by omega)
  have e13 : qF s1 163 13 = nI (a + 1) := by rw [hs1, qF_uFk (by decide), qF_uE, qF_uE, qF_uE, qF_uFs]
  have e14 : qF s1 163 14 = 0 := by rw [hs1, qF_uFk (by decide), qF_uE, qF_uE, qF_uE, qF_uFk (by decide), qF_uFs]
  have e15 : qF s1 163 15 = nI c := by rw [hs1, qF_uFk (by decide), qF_uE, qF_uE, qF_uE, qF_uFk (by decide), qF_uFk (by decide)]; exact h15
  have e16 : qF s1 163 16 = nI q := by rw [hs1, qF_uFs]
  have e26 : qF s1 163 26 = nI o := by rw [hs1, qF_uFk (by decide), qF_uE, qF_uE, qF_uE, qF_uFk (by decide), qF_uFk (by decide)]; exact h26
  have e27 : qF s1 163 27 = nI 0 := by rw [hs1, qF_uFk (by decide), qF_uE, qF_uE, qF_uE, qF_uFk (by decide), qF_uFk (by decide)]; exact h27
  have n1 : ndr s1 c u := hN.cg (fun k h1 h2 => by rw [hs1, qE_uF, qE_uEc (by omega), qE_uEc (by omega), qE_uEc (by omega)]; rfl)
  have k178 : qE s1 178 o = nI 2 := by rw [hs1, qE_uF, qE_uEc (by decide), qE_uEc (by decide), qE_uEs]
  have k179 : qE s1 179 o = -1 := by rw [hs1, qE_uF, qE_uEc (by decide), qE_uEs]
  have st1 : stk s s1 o := fun i hi => ⟨by rw [hs1, qE_uF, qE_uEc (by decide), qE_uEc (by decide), qE_uEk (by omega)]; rfl, by rw [hs1, qE_uF, qE_uEc (by decide), qE_uEk (by omega), qE_uEc (by decide)]; rfl, by rw [hs1, qE_uF, qE_uEk (by omega), qE_uEc (by decide), qE_uEc (by decide)]; rfl, by rw [hs1, qE_uF, qE_uEc (by decide), qE_uEc (by decide), qE_uEc (by decide)]; rfl⟩
  have B1 := hB.fr F1
  have g26 : qF (uF (uF s 163 14 0) 163 13 (nI (a + 1))) 163 26 = nI o := by rw [qF_uFk (by decide), qF_uFk (by decide)]; exact h26
  have g16 : qF (uF (uF s 163 14 0) 163 13 (nI (a + 1))) 163 16 = nI q := by rw [qF_uFk (by decide), qF_uFk (by decide)]; exact h16
  have fin : ∀ s2 (f : Nat), pf s1 s2 → qF s2 163 13 = nI f → qF s2 163 14 = 1 → (∀ s', pf s s' → qF s' 163 13 = nI f → qF s' 163 14 = 1 → Q none s') → ∀ v, Q none (uF s2 163 26 v) := fun s2 f F2 q1 q2 hq v => hq _ ((F1.trans F2).sF (by omega)) (by rw [qF_uFk (by decide)]; exact q1) (by rw [qF_uFk (by decide)]; exact q2)
  have b12 : qW X PR (d - 1) (none) cd_Model_begin 12 [some (.ref (163)), some (.int (nI 2))] [] s1 Q := by
    by_cases c1 : isd B z n (a + 1)
    · obtain ⟨s2, hs2⟩ : ∃ s2, s2 = uE (uF (uF s1 163 14 0) 163 13 (nI (a + 2))) 180 o (nI (B (a + 1) - 48)) := ⟨_, rfl⟩
      have F2 : pf s1 s2 := by rw [hs2]; exact (((pf.rf s1).sF (by omega)).sF (by omega)).sE (by omega)
      have f13 : qF s2 163 13 = nI (a + 2) := by rw [hs2, qF_uE, qF_uFs]
      have f14 : qF s2 163 14 = 0 := by rw [hs2, qF_uE, qF_uFk (by decide), qF_uFs]
      have f26 : qF s2 163 26 = nI o := by rw [hs2, qF_uE, qF_uFk (by decide), qF_uFk (by decide)]; exact e26
      have b13 : qW X PR (d - 1) (none) cd_Model_begin 13 [some (.ref (163)), some (.int (nI 2))] [] s2 Q := by
        by_cases c2 : isc B z 62 (a + 2)
        · obtain ⟨s3, hs3⟩ : ∃ s3, s3 = uF (uF s2 163 14 0) 163 13 (nI (a + 3)) := ⟨_, rfl⟩
          have F3 : pf s2 s3 := by rw [hs3]; exact ((pf.rf s2).sF (by omega)).sF (by omega)
          have m13 : qF s3 163 13 = nI (a + 3) := by rw [hs3, qF_uFs]
          have m14 : qF s3 163 14 = 0 := by rw [hs3, qF_uFk (by decide), qF_uFs]
          have m26 : qF s3 163 26 = nI o := by rw [hs3, qF_uFk (by decide), qF_uFk (by decide)]; exact f26
          have b14 : qW X PR (d - 1) (none) cd_Model_begin 14 [some (.ref (163)), some (.int (nI 2))] [] s3 Q := by
            by_cases c3 : isd B z n (a + 3)
            · obtain ⟨s4, hs4⟩ : ∃ s4, s4 = uE (uF (uF s3 163 14 0) 163 13 (nI (a + 4))) 181 o (nI (B (a + 3) - 48)) := ⟨_, rfl⟩
              have F4 : pf s3 s4 := by rw [hs4]; exact (((pf.rf s3).sF (by omega)).sF (by omega)).sE (by omega)
              have p13 : qF s4 163 13 = nI (a + 4) := by rw [hs4, qF_uE, qF_uFs]
              have p14 : qF s4 163 14 = 0 := by rw [hs4, qF_uE, qF_uFk (by decide), qF_uFs]
              have p26 : qF s4 163 26 = nI o := by rw [hs4, qF_uE, qF_uFk (by decide), qF_uFk (by decide)]; exact m26
              have b15 : qW X PR (d - 1) (none) cd_Model_begin 15 [some (.ref (163)), some (.int (nI 2))] [.ref (163)] s4 Q := by
                by_cases c4 : isc B z 58 (a + 4)
                · have z26 : qF (uF (uF (uF s4 163 14 0) 163 13 (nI (a + 5))) 163 14 0) 163 26 = nI o := by rw [qF_uFk (by decide), qF_uFk (by decide), qF_uFk (by decide)]; exact p26
                  refine qW.blk rfl ?_
                  refine qv_aload rfl ?_
                  refine qv_iconst (v := 58) rfl ?_
                  refine qv_virt (ly_163.rcv _) sg_Model_take rfl rfl (w_take_y hP (by omega) (a := a + 4) (c := 58) (B1.fr (F2.trans (F3.trans F4))) hdd hz p13 (by decide) c4 ?_) 
                  refine qv_if_ne_t (by decide) (tgt := 17) rfl ?_
                  refine qW.blk rfl ?_
                  refine qv_iconst (v := 0) rfl ?_
                  refine qv_nil (nx := 18) rfl ?_
                  refine qW.blk rfl ?_
                  refine qv_pi ly_163 ⟨rfl, rfl, rfl⟩ (rfl) ?_
                  refine qv_nil (nx := 19) rfl ?_
                  refine qW.blk rfl ?_
                  refine qv_aload rfl ?_
                  refine qv_dup rfl ?_
                  refine qv_gi ly_163 ⟨rfl, rfl, rfl⟩ (z26) ?_
                  refine qv_iconst (v := 1) rfl ?_
                  refine qv_iaddN (q := 1) rfl rfl ?_
                  refine qv_pi ly_163 ⟨rfl, rfl, rfl⟩ (rfl) ?_
                  refine qv_ret rfl ?_
                  have e4 : ∀ k, 13 ≤ k → k ≠ 13 → k ≠ 14 → k ≠ 26 → qF (uF (uF (uF (uF s4 163 14 0) 163 13 (nI (a + 5))) 163 14 0) 163 26 (nI (o + 1))) 163 k = qF s1 163 k := fun k _ h1 h2 h3 => by rw [qF_uFk h3, qF_uFk h2, qF_uFk h1, qF_uFk h2, hs4, qF_uE, qF_uFk h1, qF_uFk h2, hs3, qF_uFk h1, qF_uFk h2, hs2, qF_uE, qF_uFk h1, qF_uFk h2]
                  have x4 : ∀ k, k ≠ 180 → k ≠ 181 → qE (uF (uF (uF (uF s4 163 14 0) 163 13 (nI (a + 5))) 163 14 0) 163 26 (nI (o + 1))) k = qE s1 k := fun k h1 h2 => by rw [qE_uF, qE_uF, qE_uF, qE_uF, hs4, qE_uEc h2, qE_uF, qE_uF, hs3, qE_uF, qE_uF, hs2, qE_uEc h1, qE_uF, qE_uF]
                  have x180 : qE (uF (uF (uF (uF s4 163 14 0) 163 13 (nI (a + 5))) 163 14 0) 163 26 (nI (o + 1))) 180 = qE (uE s1 180 o (nI (B (a + 1) - 48))) 180 := by rw [qE_uF, qE_uF, qE_uF, qE_uF, hs4, qE_uEc (by decide), qE_uF, qE_uF, hs3, qE_uF, qE_uF, hs2]; rfl
                  have x181 : qE (uF (uF (uF (uF s4 163 14 0) 163 13 (nI (a + 5))) 163 14 0) 163 26 (nI (o + 1))) 181 = qE (uE s1 181 o (nI (B (a + 3) - 48))) 181 := by
                    rw [qE_uF, qE_uF, qE_uF, qE_uF, hs4]
                    funext j
                    rw [qE_uE, qE_uE, qE_uF, qE_uF, hs3, qE_uF, qE_uF, hs2, qE_uEc (show (181 : Nat) ≠ 180 by decide), qE_uF, qE_uF]
                  refine hk c1 c2 c3 c4 _ ((((F1.trans (F2.trans (F3.trans F4))).sF (by omega)).sF (by omega)).sF (by omega) |>.sF (by omega)) ⟨?_, ?_, ?_, ?_, qF_uFs, ?_⟩ (n1.cg (fun k h1 h2 => x4 k (by omega) (by omega))) (st1.trans (fun i hi => ⟨?_, ?_, ?_, ?_⟩)) ⟨?_, ?_, ?_, fun _ => ?_⟩
                  · rw [qF_uFk (by decide), qF_uFk (by decide), qF_uFs]
                  · rw [qF_uFk (by decide), qF_uFs]
                  · rw [e4 15 (by decide) (by decide) (by decide) (by decide)]; exact e15
                  · rw [e4 16 (by decide) (by decide) (by decide) (by decide)]; exact e16
                  · rw [e4 27 (by decide) (by decide) (by decide) (by decide)]; exact e27
                  · rw [x4 178 (by decide) (by decide)]
                  · rw [x4 179 (by decide) (by decide)]
                  · rw [x180, qE_uEk (by omega)]
                  · rw [x181, qE_uEk (by omega)]
                  · rw [x4 178 (by decide) (by decide)]; exact k178
                  · rw [x4 179 (by decide) (by decide)]; exact k179
                  · rw [x180, qE_uEs]
                  · rw [x181, qE_uEs]
                · have z26 : qF (uF (uF (uF s4 163 14 1) 163 13 (nI (a + 4))) 163 14 1) 163 26 = nI o := by rw [qF_uFk (by decide), qF_uFk (by decide), qF_uFk (by decide)]; exact p26
                  have z3 := c3.1
                  refine qW.blk rfl ?_
                  refine qv_aload rfl ?_
                  refine qv_iconst (v := 58) rfl ?_
                  refine qv_virt (ly_163.rcv _) sg_Model_take rfl rfl (w_take_n hP (by omega) (a := a + 4) (c := 58) (B1.fr (F2.trans (F3.trans F4))) hdd hz p13 (by omega) (by decide) c4 ?_) 
                  refine qv_if_ne_f (fun q => q rfl) (nx := 16) rfl ?_
                  refine qW.blk rfl ?_
                  refine qv_iconst (v := 1) rfl ?_
                  refine qv_goto (tgt := 18) rfl ?_
                  refine qW.blk rfl ?_
                  refine qv_pi ly_163 ⟨rfl, rfl, rfl⟩ (rfl) ?_
                  refine qv_nil (nx := 19) rfl ?_
                  refine qW.blk rfl ?_
                  refine qv_aload rfl ?_
                  refine qv_dup rfl ?_
                  refine qv_gi ly_163 ⟨rfl, rfl, rfl⟩ (z26) ?_
                  refine qv_iconst (v := 1) rfl ?_
                  refine qv_iaddN (q := 1) rfl rfl ?_
                  refine qv_pi ly_163 ⟨rfl, rfl, rfl⟩ (rfl) ?_
                  refine qv_ret rfl ?_
                  exact fin _ (a + 4) ((((F2.trans (F3.trans F4)).sF (by omega)).sF (by omega)).sF (by omega)) (by rw [qF_uFk (by decide), qF_uFs]) qF_uFs (hbad (a + 4) (Or.inr (Or.inr (Or.inr ⟨c1, c2, c3, c4, rfl⟩)))) _
              subst hs4
              refine qW.blk rfl ?_
              refine qv_aload rfl ?_
              refine qv_gr ly_163 ⟨rfl, rfl, rfl⟩ (by omega) ?_
              refine qv_aload rfl ?_
              refine qv_gi ly_163 ⟨rfl, rfl, rfl⟩ (m26) ?_
              refine qv_aload rfl ?_
              refine qv_virt (ly_163.rcv _) sg_Model_readEnd rfl rfl (w_mend_y hP (by omega) (a := a + 3) (B1.fr (F2.trans F3)) hdd hz hn1 hn m13 c3 ?_) 
              refine qv_is ly_181 rfl (by omega) (by decide) ?_
              refine qv_aload rfl ?_
              refine qv_aload rfl ?_
              refine qv_gi ly_163 ⟨rfl, rfl, rfl⟩ (rfl) ?_
              refine qv_if_ne_f (fun q => q p14) (nx := 15) rfl ?_
              exact b15
            · have z2 := c2.1
              have z26 : ∀ v, qF (uF (uE (uF (uF s3 163 14 1) 163 13 (nI (a + 3))) 181 o v) 163 14 1) 163 26 = nI o := fun v => by rw [qF_uFk (by decide), qF_uE, qF_uFk (by decide), qF_uFk (by decide)]; exact m26
              have w14 : ∀ v, qF (uE (uF (uF s3 163 14 1) 163 13 (nI (a + 3))) 181 o v) 163 14 = 1 := fun v => by rw [qF_uE, qF_uFk (by decide), qF_uFs]
              refine qW.blk rfl ?_
              refine qv_aload rfl ?_
              refine qv_gr ly_163 ⟨rfl, rfl, rfl⟩ (by omega) ?_
              refine qv_aload rfl ?_
              refine qv_gi ly_163 ⟨rfl, rfl, rfl⟩ (m26) ?_
              refine qv_aload rfl ?_
              refine qv_virt (ly_163.rcv _) sg_Model_readEnd rfl rfl (w_mend_n hP (by omega) (a := a + 3) (B1.fr (F2.trans F3)) hdd hz hn1 hn m13 (by omega) c3 (fun v => ?_)) 
              refine qv_is ly_181 rfl (by omega) (by decide) ?_
              refine qv_aload rfl ?_
              refine qv_aload rfl ?_
              refine qv_gi ly_163 ⟨rfl, rfl, rfl⟩ (rfl) ?_
              refine qv_if_ne_t (fun q => absurd (q.symm.trans (w14 v)) (by decide)) (tgt := 16) rfl ?_
              refine qW.blk rfl ?_
              refine qv_iconst (v := 1) rfl ?_
              refine qv_goto (tgt := 18) rfl ?_
              refine qW.blk rfl ?_
              refine qv_pi ly_163 ⟨rfl, rfl, rfl⟩ (rfl) ?_
              refine qv_nil (nx := 19) rfl ?_
              refine qW.blk rfl ?_
              refine qv_aload rfl ?_
              refine qv_dup rfl ?_
              refine qv_gi ly_163 ⟨rfl, rfl, rfl⟩ (z26 v) ?_
              refine qv_iconst (v := 1) rfl ?_
              refine qv_iaddN (q := 1) rfl rfl ?_
              refine qv_pi ly_163 ⟨rfl, rfl, rfl⟩ (rfl) ?_
              refine qv_ret rfl ?_
              exact fin _ (a + 3) (((((F2.trans F3).sF (by omega)).sF (by omega)).sE (by omega)).sF (by omega)) (by rw [qF_uFk (by decide), qF_uE, qF_uFs]) qF_uFs (hbad (a + 3) (Or.inr (Or.inr (Or.inl ⟨c1, c2, c3, rfl⟩)))) _
          subst hs3
          refine qW.blk rfl ?_
          refine qv_aload rfl ?_
          refine qv_iconst (v := 62) rfl ?_
          refine qv_virt (ly_163.rcv _) sg_Model_take rfl rfl (w_take_y hP (by omega) (a := a + 2) (c := 62) (B1.fr F2) hdd hz f13 (by decide) c2 ?_) 
          refine qv_if_eq_f (by decide) (nx := 14) rfl ?_
          exact b14
        · have z1 := c1.1
          have z26 : qF (uF (uF s2 163 14 1) 163 13 (nI (a + 2))) 163 26 = nI o := by rw [qF_uFk (by decide), qF_uFk (by decide)]; exact f26
          refine qW.blk rfl ?_
          refine qv_aload rfl ?_
          refine qv_iconst (v := 62) rfl ?_
          refine qv_virt (ly_163.rcv _) sg_Model_take rfl rfl (w_take_n hP (by omega) (a := a + 2) (c := 62) (B1.fr F2) hdd hz f13 (by omega) (by decide) c2 ?_) 
          refine qv_if_eq_t (rfl) (tgt := 19) rfl ?_
          refine qW.blk rfl ?_
          refine qv_aload rfl ?_
          refine qv_dup rfl ?_
          refine qv_gi ly_163 ⟨rfl, rfl, rfl⟩ (z26) ?_
          refine qv_iconst (v := 1) rfl ?_
          refine qv_iaddN (q := 1) rfl rfl ?_
          refine qv_pi ly_163 ⟨rfl, rfl, rfl⟩ (rfl) ?_
          refine qv_ret rfl ?_
          exact fin _ (a + 2) ((F2.sF (by omega)).sF (by omega)) qF_uFs (by rw [qF_uFk (by decide), qF_uFs]) (hbad (a + 2) (Or.inr (Or.inl ⟨c1, c2, rfl⟩))) _
      subst hs2
      refine qW.blk rfl ?_
      refine qv_aload rfl ?_
      refine qv_gr ly_163 ⟨rfl, rfl, rfl⟩ (by omega) ?_
      refine qv_aload rfl ?_
      refine qv_gi ly_163 ⟨rfl, rfl, rfl⟩ (e26) ?_
      refine qv_aload rfl ?_
      refine qv_virt (ly_163.rcv _) sg_Model_readEnd rfl rfl (w_mend_y hP (by omega) (a := a + 1) B1 hdd hz hn1 hn e13 c1 ?_) 
      refine qv_is ly_180 rfl (by omega) (by decide) ?_
      refine qv_aload rfl ?_
      refine qv_gi ly_163 ⟨rfl, rfl, rfl⟩ (rfl) ?_
      refine qv_if_ne_f (fun q => q f14) (nx := 13) rfl ?_
      exact b13
    · have z26 : ∀ v, qF (uE (uF (uF s1 163 14 1) 163 13 (nI (a + 1))) 180 o v) 163 26 = nI o := fun v => by rw [qF_uE, qF_uFk (by decide), qF_uFk (by decide)]; exact e26
      have w14 : ∀ v, qF (uE (uF (uF s1 163 14 1) 163 13 (nI (a + 1))) 180 o v) 163 14 = 1 := fun v => by rw [qF_uE, qF_uFk (by decide), qF_uFs]
      refine qW.blk rfl ?_
      refine qv_aload rfl ?_
      refine qv_gr ly_163 ⟨rfl, rfl, rfl⟩ (by omega) ?_
      refine qv_aload rfl ?_
      refine qv_gi ly_163 ⟨rfl, rfl, rfl⟩ (e26) ?_
      refine qv_aload rfl ?_
      refine qv_virt (ly_163.rcv _) sg_Model_readEnd rfl rfl (w_mend_n hP (by omega) (a := a + 1) B1 hdd hz hn1 hn e13 (by omega) c1 (fun v => ?_)) 
      refine qv_is ly_180 rfl (by omega) (by decide) ?_
      refine qv_aload rfl ?_
      refine qv_gi ly_163 ⟨rfl, rfl, rfl⟩ (rfl) ?_
      refine qv_if_ne_t (fun q => absurd (q.symm.trans (w14 v)) (by decide)) (tgt := 19) rfl ?_
      refine qW.blk rfl ?_
      refine qv_aload rfl ?_
      refine qv_dup rfl ?_
      refine qv_gi ly_163 ⟨rfl, rfl, rfl⟩ (z26 v) ?_
      refine qv_iconst (v := 1) rfl ?_
      refine qv_iaddN (q := 1) rfl rfl ?_
      refine qv_pi ly_163 ⟨rfl, rfl, rfl⟩ (rfl) ?_
      refine qv_ret rfl ?_
      exact fin _ (a + 1) ((((pf.rf s1).sF (by omega)).sF (by omega)).sE (by omega)) (by rw [qF_uE, qF_uFs]) (w14 v) (hbad (a + 1) (Or.inl ⟨c1, rfl⟩)) _
  subst hs1
  refine qP.of (L := [_, _]) (by omega) (hP _ rfl) ms_Model_begin rfl ?_
  show qW X PR (d - 1) (none) cd_Model_begin 0 _ _ _ _
  refine qW.blk rfl ?_
  refine qv_aload rfl ?_
  refine qv_aload rfl ?_
  refine qv_gi ly_163 ⟨rfl, rfl, rfl⟩ (h26) ?_
  refine qv_iconst (v := 6) rfl ?_
  refine qv_icmp_neNt (q := 6) rfl rfl (by omega) (by omega) (by omega) (tgt := 2) rfl ?_
  refine qW.blk rfl ?_
  refine qv_iconst (v := 0) rfl ?_
  refine qv_nil (nx := 3) rfl ?_
  refine qW.blk rfl ?_
  refine qv_pi ly_163 ⟨rfl, rfl, rfl⟩ (rfl) ?_
  refine qv_aload rfl ?_
  refine qv_gi ly_163 ⟨rfl, rfl, rfl⟩ (rfl) ?_
  refine qv_if_eq_t (qF_uFs) (tgt := 5) rfl ?_
  refine qW.blk rfl ?_
  refine qv_aload rfl ?_
  refine qv_dup rfl ?_
  refine qv_gi ly_163 ⟨rfl, rfl, rfl⟩ ((qF_uFk (by decide)).trans h13) ?_
  refine qv_iconst (v := 1) rfl ?_
  refine qv_iaddN (q := 1) rfl rfl ?_
  refine qv_pi ly_163 ⟨rfl, rfl, rfl⟩ (rfl) ?_
  refine qv_aload rfl ?_
  refine qv_gr ly_163 ⟨rfl, rfl, rfl⟩ (by omega) ?_
  refine qv_aload rfl ?_
  refine qv_gi ly_163 ⟨rfl, rfl, rfl⟩ (g26) ?_
  refine qv_iload rfl ?_
  refine qv_is ly_178 rfl (by omega) (by decide) ?_
  refine qv_aload rfl ?_
  refine qv_gr ly_163 ⟨rfl, rfl, rfl⟩ (by omega) ?_
  refine qv_aload rfl ?_
  refine qv_gi ly_163 ⟨rfl, rfl, rfl⟩ (g26) ?_
  refine qv_iconst (v := (-1)) rfl ?_
  refine qv_is ly_179 rfl (by omega) (by decide) ?_
  refine qv_aload rfl ?_
  refine qv_gr ly_163 ⟨rfl, rfl, rfl⟩ (by omega) ?_
  refine qv_aload rfl ?_
  refine qv_gi ly_163 ⟨rfl, rfl, rfl⟩ (g26) ?_
  refine qv_iload rfl ?_
  refine qv_iconst (v := 1) rfl ?_
  refine qv_icmp_neNt (q := 1) rfl rfl (by omega) (by omega) (by omega) (tgt := 7) rfl ?_
  refine qW.blk rfl ?_
  refine qv_iconst (v := 0) rfl ?_
  refine qv_nil (nx := 8) rfl ?_
  refine qW.blk rfl ?_
  refine qv_is ly_180 rfl (by omega) (by decide) ?_
  refine qv_aload rfl ?_
  refine qv_dup rfl ?_
  refine qv_gi ly_163 ⟨rfl, rfl, rfl⟩ (g16) ?_
  refine qv_iload rfl ?_
  refine qv_iconst (v := 1) rfl ?_
  refine qv_icmp_neNt (q := 1) rfl rfl (by omega) (by omega) (by omega) (tgt := 10) rfl ?_
  refine qW.blk rfl ?_
  refine qv_iconst (v := 0) rfl ?_
  refine qv_nil (nx := 11) rfl ?_
  refine qW.blk rfl ?_
  refine qv_iaddN (q := 0) rfl rfl ?_
  refine qv_pi ly_163 ⟨rfl, rfl, rfl⟩ (rfl) ?_
  refine qv_iload rfl ?_
  refine qv_iconst (v := 2) rfl ?_
  refine qv_icmp_neNf (q := 2) rfl rfl (by omega) (by omega) (by omega) (nx := 12) rfl ?_
  exact b12
end
