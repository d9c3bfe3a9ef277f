/-! the next row by numbers of rows; reach, first are alike -/
theorem cmo_1 {W : VW} {n g : Nat} {l : Nat → Nat} : cmo W n l 1 g = l 0 := by
  unfold cmo
  split
  · rfl
  · show (if ov W n (l (1 - 1 - 0)) &&& 0 = 0 then (l (1 - 1 - 0), 0 ||| 2 ^ l (1 - 1 - 0)) else (0, 0)).1 = _
    rw [if_pos (Nat.and_zero _)]
/-- a rising row -/
def rsg (e : Nat → Nat) (z : Nat) : Prop := (∀ i j, i < j → j < z → e i < e j) ∧ ∀ i, i < z → e i < 7
theorem rsg.le {e : Nat → Nat} {z : Nat} (h : rsg e z) {i j : Nat} (hi : i < z) (hj : j < z) : e i < e j ↔ i < j := by
  constructor
  · intro q
    refine Classical.byContradiction fun r => ?_
    rcases Nat.eq_or_lt_of_le (Nat.not_lt.mp r) with t | t
    · subst t; exact Nat.lt_irrefl _ q
    · exact Nat.lt_irrefl _ (Nat.lt_trans q (h.1 j i t hi))
  · exact fun q => h.1 i j q hj
theorem rsg_id {z : Nat} (hz : z ≤ 7) : rsg (fun x => x) z := ⟨fun _ _ h _ => h, fun _ h => Nat.lt_of_lt_of_le h hz⟩
section
variable {X : pm_X} {PR : pm_P} {s : QST} {Q : QPost}
theorem w_next_y (hP : pm_np PR) {d : Nat} (hd : 2 ≤ d) {B a z k : Nat} {e : Nat → Nat} (hB : qLY B (0, 7, [])) (hz : z ≤ 7) (hkf : k < fct z) (he : rsg e z) (hnf : ¬ rfall (prow z k) z a) (h1 : ∀ x, x < z → qE s B x = nI (e (prow z k x))) (hk : ∀ s', qfr B B s s' → k + 1 < fct z → (∀ x, x < z → qE s' B x = nI (e (prow z (k + 1) x))) → (∀ x, x < a → x < z → prow z (k + 1) x = prow z k x) → Q (some (.int 1)) s') : qP X PR d 64 [.ref B, .int (nI a), .int (nI z)] s Q := by
  obtain ⟨r1, r2⟩ := prow_ok hz hkf
  rcases row_turn (a := a) r1 with h | ⟨t, j, h⟩
  · exact absurd h hnf
  have hr := nxr_rank hz r1 h
  obtain ⟨t1, t2, t3, t4, t5, t6, t7, t8⟩ := h
  have hok := nxr_ok r1 t5 t6
  obtain ⟨p1, p2⟩ := prow_of hz hok
  rw [hr, r2] at p1 p2
  refine w_nextRow hP hd (p := fun x => e (prow z k x)) (t := t) (j := j) hB hz h1 (fun x hx => Nat.lt_succ_of_lt (he.2 _ (r1.1 x hx))) t1 t2 (Nat.le_of_lt ((he.le (r1.1 _ (by omega)) (r1.1 _ t2)).mpr t3)) (fun u h1 h2 => (he.le (r1.1 _ h2) (r1.1 _ (by omega))).mpr (t4 u h1 h2)) t5 t6 (Or.inr (Nat.le_of_lt ((he.le (r1.1 _ (by omega)) (r1.1 _ t6)).mpr t7))) (fun u h1 h2 => (he.le (r1.1 _ h2) (r1.1 _ (by omega))).mpr (t8 u h1 h2)) (fun s' F g => hk s' F p1 (fun x hx => ?_) (fun x hx hxz => ?_))
  · rw [g x hx, nxr_e, p2 x hx]
  · rw [p2 x hxz, nxr_s, nxs_lo (by omega) t5]
theorem w_next_n (hP : pm_np PR) {d : Nat} (hd : 2 ≤ d) {B a z k : Nat} {e : Nat → Nat} (hB : qLY B (0, 7, [])) (hz : z ≤ 7) (hz2 : 2 ≤ z) (ha : a + 1 ≤ z) (hkf : k < fct z) (he : rsg e z) (hf : rfall (prow z k) z a) (h1 : ∀ x, x < z → qE s B x = nI (e (prow z k x))) (hk : Q (some (.int 0)) s) : qP X PR d 64 [.ref B, .int (nI a), .int (nI z)] s Q := by
  obtain ⟨r1, r2⟩ := prow_ok hz hkf
  exact w_nextRow_n hP hd (p := fun x => e (prow z k x)) hB hz hz2 ha h1 (fun x hx => Nat.lt_succ_of_lt (he.2 _ (r1.1 x hx))) (fun u h1 h2 => (he.le (r1.1 _ h2) (r1.1 _ (by omega))).mpr (hf u h1 h2)) hk
theorem rfall_last {z k : Nat} (hz : z ≤ 7) (hkf : k < fct z) (h : rfall (prow z k) z 0) : k + 1 = fct z := by
  obtain ⟨r1, r2⟩ := prow_ok hz hkf
  have := rkr_fall hz r1 h z (Nat.le_refl _)
  rw [r2] at this
  exact this
theorem prow_0 {z : Nat} (hz : z ≤ 7) : ∀ x, x < z → prow z 0 x = x := by
  have := (prow_of hz (row_id (z := z))).2
  rw [row_id0 hz] at this
  exact this
theorem spl_all {n : Nat} : ∀ m, (∀ y, y < m → (btn (2 ^ n - 1) y ↔ y < n)) → (spl (2 ^ n - 1) m).length = (if m ≤ n then m else n) ∧ ∀ j, j < (spl (2 ^ n - 1) m).length → (spl (2 ^ n - 1) m).getD j 0 = j := by
  intro m
  induction m with
  | zero => intro _; exact ⟨by rw [if_pos (Nat.zero_le _)]; rfl, fun j h => absurd h (Nat.not_lt_zero _)⟩
  | succ m ih =>
    intro h
    obtain ⟨i1, i2⟩ := ih (fun y hy => h y (by omega))
    by_cases hb : btn (2 ^ n - 1) m
    · have hmn := (h m (by omega)).mp hb
      rw [if_pos (by omega)] at i1
      have e : spl (2 ^ n - 1) (m + 1) = spl (2 ^ n - 1) m ++ [m] := if_pos hb
      rw [e]
      refine ⟨by rw [if_pos (by omega), List.length_append, i1]; rfl, fun j hj => ?_⟩
      rw [List.length_append, i1] at hj
      have hj' : j < m + 1 := hj
      rw [getD_snoc, i1]
      by_cases q : j < m
      · rw [if_pos q]; exact i2 j (by omega)
      · rw [if_neg q, if_pos (by omega)]; omega
    · have hmn : ¬ m < n := fun q => hb ((h m (by omega)).mpr q)
      have e : spl (2 ^ n - 1) (m + 1) = spl (2 ^ n - 1) m := if_neg hb
      rw [e]
      refine ⟨?_, i2⟩
      rw [i1, if_neg (show ¬ m + 1 ≤ n by omega)]
      by_cases q : m ≤ n
      · rw [if_pos q]; omega
      · rw [if_neg q]
theorem w_spreadAll (hP : pm_np PR) {d : Nat} (hd : 1 ≤ d) {n B : Nat} (hB : qLY B (0, 7, [])) (hn : n ≤ 7) (hk : ∀ s', qfr B B s s' → (∀ j, j < n → qE s' B j = nI j) → Q (some (.int (nI n))) s') : qP X PR d 62 [.int (nI (2 ^ n - 1)), .ref B] s Q := by
  obtain ⟨a1, a2⟩ := all_bit n (by omega)
  obtain ⟨e1, e2⟩ := spl_all (n := n) 7 (fun y hy => a1 y (by omega))
  have e1' : (spl (2 ^ n - 1) 7).length = n := by
    rw [e1]
    by_cases q : 7 ≤ n
    · rw [if_pos q]; omega
    · rw [if_neg q]
  refine w_spread hP hd hB a2 (fun s' F g => ?_)
  rw [e1'] at g ⊢
  refine hk s' F (fun j hj => ?_)
  rw [g j hj, e2 j (by omega)]
theorem w_firstFor_n (hP : pm_np PR) {d : Nat} (hd : 6 ≤ d) {W : VW} {p n e : Nat} (vk : vok W p) (hw : wgh s W n) (hn1 : 1 ≤ n) (hn : n ≤ 7) (he : e < n) (g : Int32) (hno : ¬ rch W n (if g = 0 then 0 else 1) e) (hk : ∀ s', qfr 113 114 s s' → Q (some (.int (-4))) s') : qP X PR d 61 [.ref 111, .int (nI e), .int g] s Q := by
  refine qP.of (L := [_, _, _, _, _]) (by omega) (hP _ rfl) ms_Orders_firstFor rfl ?_
  show qW X PR (d - 1) (some .int) cd_Orders_firstFor 0 _ _ _ _
  refine qW.blk rfl ?_
  refine qv_aload rfl ?_
  refine qv_iload rfl ?_
  refine qv_virt (ly_111.rcv _) sg_Orders_reachBits rfl rfl (w_reachBits hP (by omega) vk hw hn1 hn g (fun s1 b F1 h1 h2 => ?_)) 
  refine qv_iload rfl ?_
  refine qv_ishr ?_
  refine qv_iconst (v := 1) rfl ?_
  refine qv_iand ?_
  refine qv_if_ne_f (fun q => q ((bit_is0 (by omega) (by omega)).mpr (fun z => hno ((h2 e (by omega)).mp z).2))) (nx := 1) rfl ?_
  refine qW.blk rfl ?_
  refine qv_iconst (v := (-4)) rfl ?_
  refine qv_iret (rfl) ?_
  exact hk s1 (F1.mono (by omega) (by omega))
theorem w_firstFor (hP : pm_np PR) {d : Nat} (hd : 6 ≤ d) {W : VW} {p n e k : Nat} (vk : vok W p) (hw : wgh s W n) (hn1 : 1 ≤ n) (hn : n ≤ 7) (he : e < n) (g : Int32) (hkf : k < fct n) (hke : cmo W n (prow n k) n (if g = 0 then 0 else 1) = e) (hno : ∀ k', k' < k → cmo W n (prow n k') n (if g = 0 then 0 else 1) ≠ e) (hk : ∀ s', qfr 113 114 s s' → Q (some (.int (nI (dig (prow n k) n)))) s') : qP X PR d 61 [.ref 111, .int (nI e), .int g] s Q := by
  refine qP.of (L := [_, _, _, _, _]) (by omega) (hP _ rfl) ms_Orders_firstFor rfl ?_
  show qW X PR (d - 1) (some .int) cd_Orders_firstFor 0 _ _ _ _
  obtain ⟨f1, f2⟩ := fct7 n (by omega)
  have hr := (rch_k vk hn1 hn he).mp ⟨k, hkf, hke⟩
  have loop : ∀ (c r : Nat) (s1 : QST), r + c = k → qfr 113 114 s s1 → (∀ x, x < n → qE s1 113 x = nI (prow n r x)) → qW X PR (d - 1) (some .int) cd_Orders_firstFor 3 [some (.ref (111)), some (.int (nI e)), some (.int (g)), some (.int (nI n)), some (.int (nI r))] [] s1 Q := by
    intro c
    induction c with
    | zero =>
      intro r s1 hr1 F1 g1
      have e1 : r = k := by omega
      subst e1
      have hw1 : wgh s1 W n := hw.fr F1 (by omega)
      have hro := (prow_ok hn hkf).1
      refine qW.blk rfl ?_
      refine qv_iload rfl ?_
      refine qv_iconst (v := 5040) rfl ?_
      refine qv_icmp_geNf (q := 5040) rfl rfl (by omega) (by omega) (by omega) (nx := 4) rfl ?_
      refine qW.blk rfl ?_
      refine qv_aload rfl ?_
      refine qv_iload rfl ?_
      refine qv_iload rfl ?_
      refine qv_virt (ly_111.rcv _) sg_Orders_comesOf rfl rfl (w_comesOf1 hP (by omega) hw1 hn hro.1 hn1 hn g1 g ?_) 
      refine qv_iload rfl ?_
      refine qv_icmp_neNf rfl rfl (by omega) (by omega) (by omega) (nx := 5) rfl ?_
      refine qW.blk rfl ?_
      refine qv_aload rfl ?_
      refine qv_gr ly_111 ⟨rfl, rfl, rfl⟩ (by omega) ?_
      refine qv_iload rfl ?_
      refine qv_static sg_Orders_digits rfl (w_digits hP (by omega) ly_113 hn g1 ?_) 
      refine qv_iret (rfl) ?_
      exact hk s1 F1
    | succ c ih =>
      intro r s1 hr1 F1 g1
      have hw1 : wgh s1 W n := hw.fr F1 (by omega)
      have hrf : r < fct n := by omega
      have hro := (prow_ok hn hrf).1
      have hne := hno r (by omega)
      have hlt := cmo_lt (W := W) (g := if g = 0 then 0 else 1) hn hn1 hro
      have hnf : ¬ rfall (prow n r) n 0 := fun q => by have := rfall_last hn hrf q; omega
      refine qW.blk rfl ?_
      refine qv_iload rfl ?_
      refine qv_iconst (v := 5040) rfl ?_
      refine qv_icmp_geNf (q := 5040) rfl rfl (by omega) (by omega) (by omega) (nx := 4) rfl ?_
      refine qW.blk rfl ?_
      refine qv_aload rfl ?_
      refine qv_iload rfl ?_
      refine qv_iload rfl ?_
      refine qv_virt (ly_111.rcv _) sg_Orders_comesOf rfl rfl (w_comesOf1 hP (by omega) hw1 hn hro.1 hn1 hn g1 g ?_) 
      refine qv_iload rfl ?_
      refine qv_icmp_neNt rfl rfl (by omega) (by omega) (by omega) (tgt := 6) rfl ?_
      refine qW.blk rfl ?_
      refine qv_aload rfl ?_
      refine qv_gr ly_111 ⟨rfl, rfl, rfl⟩ (by omega) ?_
      refine qv_iconst (v := 0) rfl ?_
      refine qv_iload rfl ?_
      refine qv_static sg_Orders_nextRow rfl (w_next_y hP (by omega) (a := 0) ly_113 hn hrf (rsg_id hn) hnf g1 (fun s2 F2 _ g2 _ => ?_)) 
      refine qv_if_ne_t (by decide) (tgt := 8) rfl ?_
      refine qW.blk rfl ?_
      refine qv_iinc (L' := [_, _, _, _, _]) rfl (nI_succ _).symm rfl ?_
      refine qv_goto (tgt := 3) rfl ?_
      exact ih (r + 1) s2 (by omega) (F1.trans (F2.mono (by omega) (by omega))) g2
  refine qW.blk rfl ?_
  refine qv_aload rfl ?_
  refine qv_iload rfl ?_
  refine qv_virt (ly_111.rcv _) sg_Orders_reachBits rfl rfl (w_reachBits hP (by omega) vk hw hn1 hn g (fun s1 b F1 h1 h2 => ?_)) 
  refine qv_iload rfl ?_
  refine qv_ishr ?_
  refine qv_iconst (v := 1) rfl ?_
  refine qv_iand ?_
  refine qv_if_ne_t (fun q => (bit_is0 (by omega) (by omega)).mp q ((h2 e (by omega)).mpr ⟨he, hr⟩)) (tgt := 2) rfl ?_
  refine qW.blk rfl ?_
  refine qv_aload rfl ?_
  refine qv_gi ly_111 ⟨rfl, rfl, rfl⟩ ((hw.fr F1 (by omega)).2.1) ?_
  refine qv_aload rfl ?_
  refine qv_gr ly_111 ⟨rfl, rfl, rfl⟩ (by omega) ?_
  refine qv_static sg_Orders_spread rfl (w_spreadAll hP (by omega) ly_113 hn (fun s2 F2 g2 => ?_)) 
  refine qv_istore (L' := [_, _, _, _, _]) rfl ?_
  refine qv_iconst (v := 0) rfl ?_
  refine qv_istore (L' := [_, _, _, _, _]) rfl ?_
  refine qv_nil (nx := 3) rfl ?_
  exact loop k 0 s2 (by omega) ((F1.mono (by omega) (by omega)).trans (F2.mono (by omega) (by omega))) (fun x hx => by rw [g2 x hx, prow_0 hn x hx])
end
