/-! bestLie: the class's search; the merged row -/
theorem hm_l0 {s : QST} {C : Nat → Nat} {p m : Nat} (h : hm s (cvw C) p) : hm s (wLie (cvw C) m (fun e => gW (cvw C) m e)) p := by
  obtain ⟨h1, h2, h3, h4⟩ := h
  refine ⟨h1, h2, h3, fun m' hm' => ?_⟩
  obtain ⟨a1, a2, a3, a4, a5⟩ := h4 m' hm'
  refine ⟨a1, a2, a3, a4, fun e he => ?_⟩
  show _ = (if m' = m then gW (cvw C) m e else gW (cvw C) m' e)
  by_cases q : m' = m
  · subst q; rw [if_pos rfl]; exact a5 e he
  · rw [if_neg q]; exact a5 e he
theorem hm_l {s s' : QST} {C : Nat → Nat} {p m : Nat} {f : Nat → Int32} (h : hm s (wLie (cvw C) m f) p) (hm1 : m < C 2) (F : qfr (84 + 3 * m + 1) (84 + 3 * m + 1) s s') : hm s' (wLie (cvw C) m (qE s' (84 + 3 * m + 1))) p := by
  obtain ⟨h1, h2, h3, h4⟩ := h
  refine ⟨by rw [F.f (by omega)]; exact h1, by rw [F.f (by omega)]; exact h2, by rw [F.f (by omega)]; exact h3, fun m' hm' => ?_⟩
  obtain ⟨a1, a2, a3, a4, a5⟩ := h4 m' hm'
  refine ⟨by rw [F.f (by omega)]; exact a1, by rw [F.f (by omega)]; exact a2, by rw [F.f (by omega)]; exact a3, by rw [F.f (by omega)]; exact a4, fun e he => ?_⟩
  show _ = (if m' = m then qE s' (84 + 3 * m + 1) e else gW (cvw C) m' e)
  by_cases e1 : m' = m
  · subst e1; rw [if_pos rfl]
  · rw [if_neg e1, F.e (by omega)]
    have := a5 e he
    have e2 : gW (wLie (cvw C) m f) m' e = gW (cvw C) m' e := if_neg e1
    rw [e2] at this
    exact this
theorem nI_min {a b : Nat} (ha : a < 2 ^ 31) (hb : b < 2 ^ 31) : (if nI b < nI a then nI b else nI a) = nI (if b < a then b else a) := by
  by_cases h : b < a
  · rw [if_pos (nI_lt h ha), if_pos h]
  · rw [if_neg (nI_nlt (Nat.not_lt.mp h) hb), if_neg h]
theorem hm_t {s s' : QST} {C : Nat → Nat} {p m lo hi : Nat} (h : hm s (wLie (cvw C) m (qE s (84 + 3 * m + 1))) p) (hM : C 2 ≤ 9) (hm1 : m < C 2) (F : qfr lo hi s s') (hr : (75 ≤ lo ∧ hi ≤ 83) ∨ 111 ≤ lo) : hm s' (wLie (cvw C) m (qE s' (84 + 3 * m + 1))) p := by
  rw [F.E (by omega)]
  exact h.fr F (by omega) hM
section
variable {X : pm_X} {PR : pm_P} {s : QST} {Q : QPost}
theorem w_there (hP : pm_np PR) {d : Nat} (hd : 1 ≤ d) {n : Nat} (h0 : qF s 9 0 = nI n) (hn : n ≤ 7) (hk : Q (some (.int (nI (2 ^ n - 1)))) s) : qP X PR d 83 [.ref 115] s Q := by
  refine qP.of (L := [_]) (by omega) (hP _ rfl) ms_Plots_there rfl ?_
  show qW X PR (d - 1) (some .int) cd_Plots_there 0 _ _ _ _
  refine qW.blk rfl ?_
  refine qv_iconst (v := 1) rfl ?_
  refine qv_aload rfl ?_
  refine qv_gr ly_115 ⟨rfl, rfl, rfl⟩ (by omega) ?_
  refine qv_gi ly_9 ⟨rfl, rfl, rfl⟩ (h0) ?_
  refine qv_ishl ?_
  refine qv_iconst (v := 1) rfl ?_
  refine qv_isub ?_
  refine qv_top (all7 n (by omega)) ?_
  refine qv_iret (rfl) ?_
  exact hk
theorem w_mattering (hP : pm_np PR) {d : Nat} (hd : 2 ≤ d) {R : List va_E} {T K n St As : Nat} {w sc pr : Nat → Int32} {q : Int32} (hR : qR s = R) (hT : qTR R T K w sc pr q (nI St) (nI As)) (h0 : qF s 9 0 = nI n) (hn : n ≤ 7) (hS : St < 128) (hA : As < 128) (hk : Q (some (.int (nI ((St ||| As) &&& (2 ^ n - 1))))) s) : qP X PR d 82 [.ref 115, .ref T] s Q := by
  have ho := or_N (a := St) (b := As) (by omega) (by omega)
  have hl := Nat.or_lt_two_pow (n := 7) hS hA
  have ha := (all_bit n (by omega)).2
  have he := and_N (a := St ||| As) (b := 2 ^ n - 1) (by omega) (by omega)
  refine qP.of (L := [_, _]) (by omega) (hP _ rfl) ms_Plots_mattering rfl ?_
  show qW X PR (d - 1) (some .int) cd_Plots_mattering 0 _ _ _ _
  refine qW.blk rfl ?_
  refine qv_aload rfl ?_
  refine qv_gh (hT.o hR) rfl rfl ?_
  refine qv_aload rfl ?_
  refine qv_gh (hT.o hR) rfl rfl ?_
  refine qv_ior ?_
  refine qv_aload rfl ?_
  refine qv_virt (ly_115.rcv _) sg_Plots_there rfl rfl (w_there hP (by omega) h0 hn ?_) 
  refine qv_iand ?_
  refine qv_top ((congrArg (fun u => u &&& nI (2 ^ n - 1)) ho).trans he) ?_
  refine qv_iret (rfl) ?_
  exact hk
theorem w_leastWish (hP : pm_np PR) {d : Nat} (hd : 1 ≤ d) {m St : Nat} {f : Nat → Nat} (hm : m < 9) (hS : St < 128) (hf : ∀ x, x < 7 → qE s (12 + 3 * m + 1) x = nI (f x)) (hf9 : ∀ x, x < 7 → f x ≤ 9) (hk : ∀ h, h ≤ 9 → (∀ x, x < 7 → btn St x → h ≤ f x) → Q (some (.int (nI h))) s) : qP X PR d 84 [.ref (12 + 3 * m + 1), .int (nI St)] s Q := by
  have hB := (mb_now hm).2.1
  refine qP.of (L := [_, _, _, _]) (by omega) (hP _ rfl) ms_Plots_leastWish rfl ?_
  show qW X PR (d - 1) (some .int) cd_Plots_leastWish 0 _ _ _ _
  have loop : ∀ (c x h : Nat), x + c = 7 → h ≤ 9 → (∀ y, y < x → btn St y → h ≤ f y) → qW X PR (d - 1) (some .int) cd_Plots_leastWish 1 [some (.ref (12 + 3 * m + 1)), some (.int (nI St)), some (.int (nI h)), some (.int (nI x))] [] s Q := by
    intro c
    induction c with
    | zero =>
      intro x h hx h9 hall
      have e : x = 7 := by omega
      subst e
      refine qW.blk rfl ?_
      refine qv_iload rfl ?_
      refine qv_iconst (v := 7) rfl ?_
      refine qv_icmp_geNt (q := 7) rfl rfl (by omega) (by omega) (by omega) (tgt := 5) rfl ?_
      refine qW.blk rfl ?_
      refine qv_iload rfl ?_
      refine qv_iret (rfl) ?_
      exact hk h h9 hall
    | succ c ih =>
      intro x h hx h9 hall
      by_cases hb : btn St x
      · have hx9 := hf9 x (by omega)
        have nx := ih (x + 1) (if f x < h then f x else h) (by omega) (by split <;> omega) (fun y hy hyb => by
          by_cases e : y = x
          · subst e; split <;> omega
          · have := hall y (by omega) hyb
            split <;> omega)
        refine qW.blk rfl ?_
        refine qv_iload rfl ?_
        refine qv_iconst (v := 7) rfl ?_
        refine qv_icmp_geNf (q := 7) rfl rfl (by omega) (by omega) (by omega) (nx := 2) rfl ?_
        refine qW.blk rfl ?_
        refine qv_iload rfl ?_
        refine qv_iload rfl ?_
        refine qv_ishr ?_
        refine qv_iconst (v := 1) rfl ?_
        refine qv_iand ?_
        refine qv_iconst (v := 1) rfl ?_
        refine qv_icmp_ne_f (fun q => q ((bit_is (by omega) (by omega)).mpr hb)) (nx := 3) rfl ?_
        refine qW.blk rfl ?_
        refine qv_iload rfl ?_
        refine qv_aload rfl ?_
        refine qv_iload rfl ?_
        refine qv_ia hB rfl (by omega) (by decide) (hf x (by omega)) ?_
        refine qv_min (Nat.le_of_ble_eq_true rfl) ?_
        refine qv_top (nI_min (by omega) (by omega)) ?_
        refine qv_istore (L' := [_, _, _, _]) rfl ?_
        refine qv_nil (nx := 4) rfl ?_
        refine qW.blk rfl ?_
        refine qv_iinc (L' := [_, _, _, _]) rfl (nI_succ _).symm rfl ?_
        refine qv_goto (tgt := 1) rfl ?_
        exact nx
      · refine qW.blk rfl ?_
        refine qv_iload rfl ?_
        refine qv_iconst (v := 7) rfl ?_
        refine qv_icmp_geNf (q := 7) rfl rfl (by omega) (by omega) (by omega) (nx := 2) rfl ?_
        refine qW.blk rfl ?_
        refine qv_iload rfl ?_
        refine qv_iload rfl ?_
        refine qv_ishr ?_
        refine qv_iconst (v := 1) rfl ?_
        refine qv_iand ?_
        refine qv_iconst (v := 1) rfl ?_
        refine qv_icmp_ne_t (fun q => hb ((bit_is (by omega) (by omega)).mp q)) (tgt := 4) rfl ?_
        refine qW.blk rfl ?_
        refine qv_iinc (L' := [_, _, _, _]) rfl (nI_succ _).symm rfl ?_
        refine qv_goto (tgt := 1) rfl ?_
        exact ih (x + 1) h (by omega) h9 (fun y hy hyb => by
          by_cases e : y = x
          · subst e; exact absurd hyb hb
          · exact hall y (by omega) hyb)
  refine qW.blk rfl ?_
  refine qv_iconst (v := 9) rfl ?_
  refine qv_istore (L' := [_, _, _, _]) rfl ?_
  refine qv_iconst (v := 0) rfl ?_
  refine qv_istore (L' := [_, _, _, _]) rfl ?_
  refine qv_nil (nx := 1) rfl ?_
  exact loop 7 0 9 rfl (by omega) (fun y hy => absurd hy (Nat.not_lt_zero _))
theorem w_nextRow_0 (hP : pm_np PR) {d : Nat} (hd : 2 ≤ d) {B z : Nat} (hB : qLY B (0, 7, [])) (hz : z ≤ 1) (hk : Q (some (.int 0)) s) : qP X PR d 64 [.ref B, .int (nI 0), .int (nI z)] s Q := by
  refine qP.of (L := [_, _, _, _, _, _, _]) (by omega) (hP _ rfl) ms_Orders_nextRow rfl ?_
  show qW X PR (d - 1) (some .boolean) cd_Orders_nextRow 0 _ _ _ _
  rcases (show z = 0 ∨ z = 1 by omega) with h | h
  · subst h
    refine qW.blk rfl ?_
    refine qv_iload rfl ?_
    refine qv_iconst (v := 2) rfl ?_
    refine qv_isub ?_
    refine qv_istore (L' := [_, _, _, _, _, _, _]) rfl ?_
    refine qv_nil (nx := 1) rfl ?_
    refine qW.blk rfl ?_
    refine qv_iload rfl ?_
    refine qv_iload rfl ?_
    refine qv_icmp_lt_t (by decide) (tgt := 4) rfl ?_
    refine qW.blk rfl ?_
    refine qv_iload rfl ?_
    refine qv_iload rfl ?_
    refine qv_icmp_ge_f (by decide) (nx := 5) rfl ?_
    refine qW.blk rfl ?_
    refine qv_iconst (v := 0) rfl ?_
    refine qv_iret (by first | exact bI_ret | rfl) ?_
    exact hk
  · subst h
    refine qW.blk rfl ?_
    refine qv_iload rfl ?_
    refine qv_iconst (v := 2) rfl ?_
    refine qv_isub ?_
    refine qv_istore (L' := [_, _, _, _, _, _, _]) rfl ?_
    refine qv_nil (nx := 1) rfl ?_
    refine qW.blk rfl ?_
    refine qv_iload rfl ?_
    refine qv_iload rfl ?_
    refine qv_icmp_lt_t (by decide) (tgt := 4) rfl ?_
    refine qW.blk rfl ?_
    refine qv_iload rfl ?_
    refine qv_iload rfl ?_
    refine qv_icmp_ge_f (by decide) (nx := 5) rfl ?_
    refine qW.blk rfl ?_
    refine qv_iconst (v := 0) rfl ?_
    refine qv_iret (by first | exact bI_ret | rfl) ?_
    exact hk
theorem w_settleB (hP : pm_np PR) {d : Nat} (hd : 5 ≤ d) {N p T m : Nat} (hh : hok s N p) {D : TD} (hD : tdOK D) (hT : cTD (qR s) T D) {C r : Nat → Nat} (hv : veq (tE D) (hvw s N) (wLie (cvw C) m (fun x => nI (plw r x (C 0))))) (hk : ∀ s', qfr 76 82 s s' → Q (some (.int (nI (blv C m D r)))) s') : qP X PR d 13 [.ref 74, .ref T] s Q := w_settleT hP hd hh hD hT (E := tE D) (fun x hx => hx) hv (fun s' F _ => hk s' F)
theorem w_findLie (hP : pm_np PR) {d : Nat} (hd : 8 ≤ d) {C : Nat → Nat} (hc : cC s 9 C) {D : TD} {z zo : Nat} {e eo : Nat → Nat} (h : lset C D z zo e eo) {T m k0 : Nat} {w sc pr : Nat → Int32} (hT : qTR (qR s) T D.2.2.2.1 w sc pr (nI D.2.2.2.2.1) (nI D.2.2.2.2.2.1) (nI D.2.2.2.2.2.2)) (hcT : ctr D.1 D.2.2.2.1 w sc pr) (hmC : m < C 2) (hk0 : k0 < fct z) (hmin : ∀ k, k < fct z → blu C m D z zo e eo k0 ≤ blu C m D z zo e eo k) (hlt : ∀ k, k < k0 → blu C m D z zo e eo k0 < blu C m D z zo e eo k) (hk : ∀ s', qfr 74 118 s s' → (∀ j, j < z → qE s' 118 j = nI (e (prow z k0 j))) → qF s' 115 7 = nI (blv C m D (mgk z zo e eo k0)) → Q none s') : qP X PR d 81 [.ref 115, .ref T, .int (nI m)] s Q := by
  have h' := h
  obtain ⟨hD, hC, hs, hz, hzo, he, heo⟩ := h
  have hn := hC.2.1
  have hM := hC.2.2.2.1
  have hz7 : z ≤ 7 := by have := hs.1; omega
  have hs7 := hD.2.2.2.2.2.2.1
  have ha7 := hD.2.2.2.2.2.2.2.1
  have hMl : mtt D (C 0) < 128 := Nat.lt_of_lt_of_le mtt_lt (two_lt (by omega))
  have hre : rsg e z := hs.2.2.1
  have w9 := (hC.2.2.2.2.2 m hmC).2.2.2.2.2.2
  obtain ⟨fz1, fz2⟩ := fct7 z (by omega)
  have hv9 : ∀ k, blu C m D z zo e eo k ≤ 9 := fun k => (w9 _ (blv_in hD).1).1
  have ownf : ∀ s1, qfr 74 118 s s1 → ∀ x, x < 7 → qE s1 (12 + 3 * m + 1) x = nI (C (60 + 7 * m + x)) := fun s1 F x hx => by
    rw [F.e (by omega)]
    have := ((hc.2.2.2.2 m hmC).2.2.2.2.2.2 x hx).1
    exact this
  refine qP.of (L := [_, _, _, _, _, _, _, _, _, _]) (by omega) (hP _ rfl) ms_Plots_findLie rfl ?_
  show qW X PR (d - 1) (none) cd_Plots_findLie 0 _ _ _ _
  have hm9 : m < 9 := by omega
  have hB1 := (mb_now hm9).2.1
  have hB2 := (mb_seat hm9).2.1
  have uniq : ∀ kb, kb < fct z → (∀ k', k' < fct z → blu C m D z zo e eo kb ≤ blu C m D z zo e eo k') → (∀ k', k' < kb → blu C m D z zo e eo kb < blu C m D z zo e eo k') → kb = k0 := fun kb h1 h2 h3 => by
    have a := h2 k0 hk0
    have b := hmin kb h1
    rcases Nat.lt_trichotomy kb k0 with t | t | t
    · have := hlt kb t; omega
    · exact t
    · have := h3 k0 t; omega
  have main : ∀ (p hoped : Nat), vok (cvw C) p → hoped ≤ 9 → (∀ k, hoped ≤ blu C m D z zo e eo k) → ∀ (c k least : Nat) (s1 : QST) (L9 : Option Value), k + c = fct z → k < fct z → least ≤ 10 → qfr 74 118 s s1 → (∀ x, x < z → qE s1 117 x = nI (e (prow z k x))) → (∀ x, x < 7 → (∀ j, j < z → e j ≠ x) → qE s1 (84 + 3 * m + 1) x = 9) → hm s1 (wLie (cvw C) m (qE s1 (84 + 3 * m + 1))) p → ((k = 0 ∧ least = 10) ∨ ∃ kb, kb < k ∧ least = blu C m D z zo e eo kb ∧ (∀ j, j < z → qE s1 118 j = nI (e (prow z kb j))) ∧ qF s1 115 7 = nI (blv C m D (mgk z zo e eo kb)) ∧ (∀ k', k' < k → blu C m D z zo e eo kb ≤ blu C m D z zo e eo k') ∧ ∀ k', k' < kb → blu C m D z zo e eo kb < blu C m D z zo e eo k') → qW X PR (d - 1) (none) cd_Plots_findLie 1 [some (.ref (115)), some (.ref (T)), some (.int (nI m)), some (.ref (12 + 3 * m + 1)), some (.ref (84 + 3 * m + 1)), some (.int (nI z)), some (.int (nI hoped)), some (.int (nI least)), some (.int (nI k)), L9] [] s1 Q := by
    intro p hoped vp hh9 hho c
    induction c with
    | zero => intro k least s1 L9 h1 h2; omega
    | succ c ih =>
      intro k least s1 L9 hkc hkf hl10 F1 g117 g9 HM hbest
      have hro := (prow_ok hz7 hkf).1
      have hin : ∀ j, j < z → e (prow z k j) < 7 := fun j hj => hre.2 _ (hro.1 j hj)
      have hbl := blv_in (C := C) (m := m) (r := mgk z zo e eo k) hD
      have hu9 := hv9 k
      -- behind the look at the END that comes
      have b7 : ∀ (least' end' : Nat) (s3 : QST), least' ≤ 9 → qfr 74 118 s s3 → (∀ x, x < z → qE s3 117 x = nI (e (prow z k x))) → (∀ x, x < 7 → (∀ j, j < z → e j ≠ x) → qE s3 (84 + 3 * m + 1) x = 9) → hm s3 (wLie (cvw C) m (qE s3 (84 + 3 * m + 1))) p → (∃ kb, kb < k + 1 ∧ least' = blu C m D z zo e eo kb ∧ (∀ j, j < z → qE s3 118 j = nI (e (prow z kb j))) ∧ qF s3 115 7 = nI (blv C m D (mgk z zo e eo kb)) ∧ (∀ k', k' < k + 1 → blu C m D z zo e eo kb ≤ blu C m D z zo e eo k') ∧ ∀ k', k' < kb → blu C m D z zo e eo kb < blu C m D z zo e eo k') → qW X PR (d - 1) (none) cd_Plots_findLie 7 [some (.ref (115)), some (.ref (T)), some (.int (nI m)), some (.ref (12 + 3 * m + 1)), some (.ref (84 + 3 * m + 1)), some (.int (nI z)), some (.int (nI hoped)), some (.int (nI least')), some (.int (nI k)), some (.int (nI end'))] [] s3 Q := by
        intro least' end' s3 hl9 F3 h117 h9 HM3 hb3
        have hb3' := hb3
        obtain ⟨kb, b1, b2, b3, b4, b5, b6⟩ := hb3
        have fin : (∀ k', k' < fct z → blu C m D z zo e eo kb ≤ blu C m D z zo e eo k') → Q none s3 := fun q => by
          have ek := uniq kb (by omega) q b6
          subst ek
          exact hk s3 F3 b3 b4
        by_cases hst : least' = hoped
        · refine qW.blk rfl ?_
          refine qv_iload rfl ?_
          refine qv_iload rfl ?_
          refine qv_icmp_eqNt rfl rfl (by omega) (by omega) (by omega) (tgt := 9) rfl ?_
          refine qW.blk rfl ?_
          refine qv_ret rfl ?_
          exact fin (fun k' _ => by rw [← b2, hst]; exact hho k')
        · by_cases hz1 : z ≤ 1
          · have hf1 : fct z = 1 := by
              rcases (show z = 0 ∨ z = 1 by omega) with q | q <;> rw [q] <;> rfl
            refine qW.blk rfl ?_
            refine qv_iload rfl ?_
            refine qv_iload rfl ?_
            refine qv_icmp_eqNf rfl rfl (by omega) (by omega) (by omega) (nx := 8) rfl ?_
            refine qW.blk rfl ?_
            refine qv_aload rfl ?_
            refine qv_gr ly_115 ⟨rfl, rfl, rfl⟩ (by omega) ?_
            refine qv_iconst (v := 0) rfl ?_
            refine qv_iload rfl ?_
            refine qv_static sg_Orders_nextRow rfl (w_nextRow_0 hP (by omega) ly_117 hz1 ?_) 
            refine qv_if_ne_f (fun q => q rfl) (nx := 9) rfl ?_
            refine qW.blk rfl ?_
            refine qv_ret rfl ?_
            exact fin (fun k' hk' => b5 k' (by omega))
          · by_cases hf : rfall (prow z k) z 0
            · have := rfall_last hz7 hkf hf
              refine qW.blk rfl ?_
              refine qv_iload rfl ?_
              refine qv_iload rfl ?_
              refine qv_icmp_eqNf rfl rfl (by omega) (by omega) (by omega) (nx := 8) rfl ?_
              refine qW.blk rfl ?_
              refine qv_aload rfl ?_
              refine qv_gr ly_115 ⟨rfl, rfl, rfl⟩ (by omega) ?_
              refine qv_iconst (v := 0) rfl ?_
              refine qv_iload rfl ?_
              refine qv_static sg_Orders_nextRow rfl (w_next_n hP (by omega) (a := 0) ly_117 hz7 (by omega) (by omega) hkf hre hf h117 ?_) 
              refine qv_if_ne_f (fun q => q rfl) (nx := 9) rfl ?_
              refine qW.blk rfl ?_
              refine qv_ret rfl ?_
              exact fin (fun k' hk' => b5 k' (by omega))
            · refine qW.blk rfl ?_
              refine qv_iload rfl ?_
              refine qv_iload rfl ?_
              refine qv_icmp_eqNf rfl rfl (by omega) (by omega) (by omega) (nx := 8) rfl ?_
              refine qW.blk rfl ?_
              refine qv_aload rfl ?_
              refine qv_gr ly_115 ⟨rfl, rfl, rfl⟩ (by omega) ?_
              refine qv_iconst (v := 0) rfl ?_
              refine qv_iload rfl ?_
              refine qv_static sg_Orders_nextRow rfl (w_next_y hP (by omega) (a := 0) ly_117 hz7 hkf hre hf h117 (fun s4 F4 q1 q2 q3 => ?_)) 
              refine qv_if_ne_t (by decide) (tgt := 10) rfl ?_
              refine qW.blk rfl ?_
              refine qv_iinc (L' := [_, _, _, _, _, _, _, _, _, _]) rfl (nI_succ _).symm rfl ?_
              refine qv_goto (tgt := 1) rfl ?_
              refine ih (k + 1) least' s4 _ (by omega) q1 (by omega) (F3.trans (F4.mono (by omega) (by omega))) q2 (fun x hx hxe => by rw [F4.e (by omega)]; exact h9 x hx hxe) (hm_t HM3 hM hmC F4 (by omega)) (Or.inr ⟨kb, b1, b2, fun j hj => by rw [F4.e (by omega)]; exact b3 j hj, by rw [F4.f (by omega)]; exact b4, b5, b6⟩)
      have inner : ∀ (c2 i : Nat) (s2 : QST), i + c2 = z → qfr 74 118 s s2 → (∀ x, x < z → qE s2 117 x = nI (e (prow z k x))) → (∀ x, x < 7 → (∀ j, j < z → e j ≠ x) → qE s2 (84 + 3 * m + 1) x = 9) → hm s2 (wLie (cvw C) m (qE s2 (84 + 3 * m + 1))) p → qE s2 118 = qE s1 118 → qF s2 115 = qF s1 115 → (∀ j, j < i → qE s2 (84 + 3 * m + 1) (e (prow z k j)) = nI j) → qW X PR (d - 1) (none) cd_Plots_findLie 3 [some (.ref (115)), some (.ref (T)), some (.int (nI m)), some (.ref (12 + 3 * m + 1)), some (.ref (84 + 3 * m + 1)), some (.int (nI z)), some (.int (nI hoped)), some (.int (nI least)), some (.int (nI k)), some (.int (nI i))] [] s2 Q := by
        intro c2
        induction c2 with
        | zero =>
          intro i s2 hi F2 h117 h9 HM2 e118 e115 htold
          have ei : i = z := by omega
          subst ei
          have hpr := hro
          have htl : tlk (tE D) (C 0) i e (prow i k) (qE s2 (84 + 3 * m + 1)) := by
            refine ⟨fun a b hab hb => ?_, fun a ha => ?_, fun x hx hxn => ?_⟩
            · rw [htold a (by omega), htold b hb]; exact nI_lt hab (by omega)
            · rw [htold a ha]; exact nI_lt (b := 9) (by omega) (by decide)
            · refine h9 x (tdE hD x hx) (fun j hj q => ?_)
              have := hs.2.2.2.2.1 j hj
              omega
          have hve : veq (tE D) (hvw s2 (C 2)) (wLie (cvw C) m (fun x => nI (plw (mgk i zo e eo k) x (C 0)))) := ((HM2.ve (wLie_ok vp)).mono (fun x hx => tdE hD x hx)).trans (blv_of h' hpr (mgv_ok hs hpr) (mgv_cm hs hpr) htl)
          have keep : ∀ s3, qfr 76 82 s2 s3 → qfr 74 118 s s3 ∧ (∀ x, x < i → qE s3 117 x = nI (e (prow i k x))) ∧ (∀ x, x < 7 → (∀ j, j < i → e j ≠ x) → qE s3 (84 + 3 * m + 1) x = 9) ∧ hm s3 (wLie (cvw C) m (qE s3 (84 + 3 * m + 1))) p ∧ qE s3 118 = qE s1 118 ∧ qF s3 115 = qF s1 115 := fun s3 F3 => ⟨F2.trans (F3.mono (by omega) (by omega)), fun x hx => (F3.e (by omega)).trans (h117 x hx), fun x hx hxe => by rw [F3.e (by omega)]; exact h9 x hx hxe, hm_t HM2 hM hmC F3 (by omega), (F3.E (by omega)).trans e118, (F3.F (by omega)).trans e115⟩
          have hT2 : cTD (qR s2) T D := by rw [F2.R]; exact ⟨w, sc, pr, hT, hcT⟩
          have hu : C (60 + 7 * m + blv C m D (mgk i zo e eo k)) = blu C m D i zo e eo k := rfl
          by_cases hless : blu C m D i zo e eo k < least
          · have hup : ∀ s3, qfr 76 82 s2 s3 → qW X PR (d - 1) (none) cd_Plots_findLie 7 [some (.ref (115)), some (.ref (T)), some (.int (nI m)), some (.ref (12 + 3 * m + 1)), some (.ref (84 + 3 * m + 1)), some (.int (nI i)), some (.int (nI hoped)), some (.int (nI (blu C m D i zo e eo k))), some (.int (nI k)), some (.int (nI (blv C m D (mgk i zo e eo k))))] [] (uA (uF s3 115 7 (nI (blv C m D (mgk i zo e eo k)))) 118 (va_cpy (qE s3 117) (qE s3 118) 0 0 i)) Q := fun s3 F3 => by
              obtain ⟨k1, k2, k3, k4, k5, k6⟩ := keep s3 F3
              have F4 : qfr 115 118 s3 (uA (uF s3 115 7 (nI (blv C m D (mgk i zo e eo k)))) 118 (va_cpy (qE s3 117) (qE s3 118) 0 0 i)) := ((qfr.rf s3).uF (by omega)).uA (by omega)
              refine b7 _ _ _ hu9 (k1.trans (F4.mono (by omega) (by omega))) (fun x hx => by rw [qE_uAc (by omega)]; exact k2 x hx) (fun x hx hxe => by rw [F4.e (by omega)]; exact k3 x hx hxe) (hm_t k4 hM hmC F4 (by omega)) ⟨k, by omega, rfl, fun j hj => ?_, by rw [qF_uA, qF_uFs], fun k' hk' => ?_, fun k' hk' => ?_⟩
              · rw [qE_uAs]
                show (if 0 ≤ j ∧ j < 0 + i then qE s3 117 (0 + (j - 0)) else _) = _
                rw [if_pos ⟨Nat.zero_le _, by omega⟩, Nat.zero_add, Nat.sub_zero]
                exact k2 j hj
              · by_cases ek : k' = k
                · subst ek; exact Nat.le_refl _
                · rcases hbest with ⟨q1, q2⟩ | ⟨kb, q1, q2, q3, q4, q5, q6⟩
                  · omega
                  · have := q5 k' (by omega); omega
              · rcases hbest with ⟨q1, q2⟩ | ⟨kb, q1, q2, q3, q4, q5, q6⟩
                · omega
                · have := q5 k' hk'; omega
            refine qW.blk rfl ?_
            refine qv_iload rfl ?_
            refine qv_iload rfl ?_
            refine qv_icmp_geNt rfl rfl (by omega) (by omega) (by omega) (tgt := 5) rfl ?_
            refine qW.blk rfl ?_
            refine qv_aload rfl ?_
            refine qv_gr ly_115 ⟨rfl, rfl, rfl⟩ (by omega) ?_
            refine qv_aload rfl ?_
            refine qv_virt (ly_74.rcv _) sg_Hall_settle rfl rfl (w_settleB hP (by omega) (HM2.ok (wLie_ok vp)) hD hT2 hve (fun s3 F3 => ?_)) 
            refine qv_istore (L' := [_, _, _, _, _, _, _, _, _, _]) rfl ?_
            refine qv_aload rfl ?_
            refine qv_iload rfl ?_
            refine qv_ia hB1 (rfl) (hbl.1) (by decide) (ownf s3 (keep s3 F3).1 _ hbl.1) ?_
            refine qv_iload rfl ?_
            refine qv_icmp_geNf rfl rfl (by omega) (by omega) (by omega) (nx := 6) rfl ?_
            refine qW.blk rfl ?_
            refine qv_aload rfl ?_
            refine qv_iload rfl ?_
            refine qv_ia hB1 (rfl) (hbl.1) (by decide) (ownf s3 (keep s3 F3).1 _ hbl.1) ?_
            refine qv_istore (L' := [_, _, _, _, _, _, _, _, _, _]) rfl ?_
            refine qv_aload rfl ?_
            refine qv_iload rfl ?_
            refine qv_pi ly_115 ⟨rfl, rfl, rfl⟩ (rfl) ?_
            refine qv_aload rfl ?_
            refine qv_gr ly_115 ⟨rfl, rfl, rfl⟩ (by omega) ?_
            refine qv_iconst (v := 0) rfl ?_
            refine qv_aload rfl ?_
            refine qv_gr ly_115 ⟨rfl, rfl, rfl⟩ (by omega) ?_
            refine qv_iconst (v := 0) rfl ?_
            refine qv_iload rfl ?_
            refine qv_copy (p := 0) (q := 0) ly_117 ly_118 rfl rfl rfl (⟨by omega, by omega, by decide, by decide⟩) (Nat.le_of_ble_eq_true rfl) ?_
            refine qv_nil (nx := 7) rfl ?_
            exact hup s3 F3
          · refine qW.blk rfl ?_
            refine qv_iload rfl ?_
            refine qv_iload rfl ?_
            refine qv_icmp_geNt rfl rfl (by omega) (by omega) (by omega) (tgt := 5) rfl ?_
            refine qW.blk rfl ?_
            refine qv_aload rfl ?_
            refine qv_gr ly_115 ⟨rfl, rfl, rfl⟩ (by omega) ?_
            refine qv_aload rfl ?_
            refine qv_virt (ly_74.rcv _) sg_Hall_settle rfl rfl (w_settleB hP (by omega) (HM2.ok (wLie_ok vp)) hD hT2 hve (fun s3 F3 => ?_)) 
            refine qv_istore (L' := [_, _, _, _, _, _, _, _, _, _]) rfl ?_
            refine qv_aload rfl ?_
            refine qv_iload rfl ?_
            refine qv_ia hB1 (rfl) (hbl.1) (by decide) (ownf s3 (keep s3 F3).1 _ hbl.1) ?_
            refine qv_iload rfl ?_
            refine qv_icmp_geNt rfl rfl (by omega) (by omega) (by omega) (tgt := 7) rfl ?_
            obtain ⟨k1, k2, k3, k4, k5, k6⟩ := keep s3 F3
            rcases hbest with ⟨q1, q2⟩ | ⟨kb, q1, q2, q3, q4, q5, q6⟩
            · omega
            · have hkb9 := hv9 kb
              refine b7 _ _ _ (by omega) k1 k2 k3 k4 ⟨kb, by omega, q2, fun j hj => by rw [k5]; exact q3 j hj, by rw [k6]; exact q4, fun k' hk' => ?_, q6⟩
              by_cases ek : k' = k
              · subst ek; omega
              · exact q5 k' (by omega)
        | succ c2 ih2 =>
          intro i s2 hi F2 h117 h9 HM2 e118 e115 htold
          have hiz : i < z := by omega
          have hie := hin i hiz
          have F3 : qfr (84 + 3 * m + 1) (84 + 3 * m + 1) s2 (uE s2 (84 + 3 * m + 1) (e (prow z k i)) (nI i)) := (qfr.rf s2).uE ⟨Nat.le_refl _, Nat.le_refl _⟩
          refine qW.blk rfl ?_
          refine qv_iload rfl ?_
          refine qv_iload rfl ?_
          refine qv_icmp_geNf rfl rfl (by omega) (by omega) (by omega) (nx := 4) rfl ?_
          refine qW.blk rfl ?_
          refine qv_aload rfl ?_
          refine qv_aload rfl ?_
          refine qv_gr ly_115 ⟨rfl, rfl, rfl⟩ (by omega) ?_
          refine qv_iload rfl ?_
          refine qv_ia ly_117 rfl (by omega) (by decide) (h117 i hiz) ?_
          refine qv_iload rfl ?_
          refine qv_is hB2 rfl (by omega) (by decide) ?_
          refine qv_iinc (L' := [_, _, _, _, _, _, _, _, _, _]) rfl (nI_succ _).symm rfl ?_
          refine qv_goto (tgt := 3) rfl ?_
          refine ih2 (i + 1) _ (by omega) (F2.trans (F3.mono (by omega) (by omega))) (fun x hx => by rw [qE_uEc (by omega)]; exact h117 x hx) (fun x hx hxe => by rw [qE_uEk (fun q => hxe _ (hro.1 i hiz) q.symm)]; exact h9 x hx hxe) (hm_l HM2 hmC F3) ((F3.E (by omega)).trans e118) ((F3.F (by omega)).trans e115) (fun j hj => ?_)
          by_cases ej : j = i
          · subst ej; rw [qE_uEs]
          · rw [qE_uEk (fun q => ?_)]
            · exact htold j (by omega)
            · have b1 := hro.1 j (by omega)
              have b2 := hro.1 i hiz
              rcases Nat.lt_trichotomy (prow z k j) (prow z k i) with t | t | t
              · have := hre.1 _ _ t b2; omega
              · rcases Nat.lt_or_gt_of_ne ej with u | u
                · exact hro.2 j i u hiz t
                · exact hro.2 i j u (by omega) t.symm
              · have := hre.1 _ _ t b1; omega
      refine qW.blk rfl ?_
      refine qv_iload rfl ?_
      refine qv_iconst (v := 5040) rfl ?_
      refine qv_icmp_geNf (q := 5040) rfl rfl (by omega) (by omega) (by omega) (nx := 2) rfl ?_
      refine qW.blk rfl ?_
      refine qv_iconst (v := 0) rfl ?_
      refine qv_istore (L' := [_, _, _, _, _, _, _, _, _, _]) rfl ?_
      refine qv_nil (nx := 3) rfl ?_
      exact inner z 0 s1 (by omega) F1 g117 g9 HM rfl rfl (fun j hj => absurd hj (Nat.not_lt_zero _))
  refine qW.blk rfl ?_
  refine qv_aload rfl ?_
  refine qv_gr ly_115 ⟨rfl, rfl, rfl⟩ (by omega) ?_
  refine qv_aload rfl ?_
  refine qv_gr ly_115 ⟨rfl, rfl, rfl⟩ (by omega) ?_
  refine qv_virt (ly_74.rcv _) sg_Hall_seat rfl rfl (w_Hall_seat hP (by omega) hc hC (fun s1 p F1 m1 v1 => ?_)) 
  refine qv_aload rfl ?_
  refine qv_gr ly_115 ⟨rfl, rfl, rfl⟩ (by omega) ?_
  refine qv_gr ly_9 ⟨rfl, rfl, rfl⟩ (by omega) ?_
  refine qv_iload rfl ?_
  refine qv_aa (j := m) (r := 12 + 3 * m) ly_10 rfl (show _ < 9 by omega) (by decide) rfl ?_
  refine qv_gr (mb_now (m := m) (by omega)).1 ⟨rfl, rfl, rfl⟩ (by omega) ?_
  refine qv_astore (L' := [_, _, _, _, _, _, _, _, _, _]) rfl ?_
  refine qv_aload rfl ?_
  refine qv_gr ly_115 ⟨rfl, rfl, rfl⟩ (by omega) ?_
  refine qv_gr ly_74 ⟨rfl, rfl, rfl⟩ (by omega) ?_
  refine qv_iload rfl ?_
  refine qv_aa (j := m) (r := 84 + 3 * m) ly_75 rfl (show _ < 9 by omega) (by decide) rfl ?_
  refine qv_gr (mb_seat (m := m) (by omega)).1 ⟨rfl, rfl, rfl⟩ (by omega) ?_
  refine qv_astore (L' := [_, _, _, _, _, _, _, _, _, _]) rfl ?_
  refine qv_aload rfl ?_
  refine qv_iconst (v := 9) rfl ?_
  refine qv_static sg_Arrays_fill rfl (w_fill hP (by omega) hB2 (by decide) 9 ?_) 
  refine qv_aload rfl ?_
  refine qv_aload rfl ?_
  refine qv_virt (ly_115.rcv _) sg_Plots_mattering rfl rfl (w_mattering hP (by omega) F1.R hT ((F1.f (by omega)).trans hc.1) hn hs7 ha7 ?_) 
  refine qv_aload rfl ?_
  refine qv_gr ly_115 ⟨rfl, rfl, rfl⟩ (by omega) ?_
  refine qv_static sg_Orders_spread rfl (w_spread hP (by omega) ly_117 hMl (fun s2 F2 g2 => ?_)) 
  refine qv_top (congrArg nI hz.symm) ?_
  refine qv_istore (L' := [_, _, _, _, _, _, _, _, _, _]) rfl ?_
  refine qv_aload rfl ?_
  refine qv_aload rfl ?_
  refine qv_gh (hT.o (F2.R.trans F1.R)) rfl rfl ?_
  refine qv_static sg_Plots_leastWish rfl (w_leastWish hP (by omega) hm9 hs7 (ownf s2 ((F1.mono (by omega) (by omega)).trans (((qfr.rf s1).uA (c := 84 + 3 * m + 1) (g := fun j => if j < 7 then 9 else qE s1 (84 + 3 * m + 1) j) (by omega)).trans (F2.mono (by omega) (by omega))))) (fun x hx => (w9 x hx).1) (fun hoped h9 hall => ?_)) 
  refine qv_istore (L' := [_, _, _, _, _, _, _, _, _, _]) rfl ?_
  refine qv_iconst (v := 10) rfl ?_
  refine qv_istore (L' := [_, _, _, _, _, _, _, _, _, _]) rfl ?_
  refine qv_iconst (v := 0) rfl ?_
  refine qv_istore (L' := [_, _, _, _, _, _, _, _, _, _]) rfl ?_
  refine qv_nil (nx := 1) rfl ?_
  have Fa : qfr (84 + 3 * m + 1) (84 + 3 * m + 1) s1 (uA s1 (84 + 3 * m + 1) (fun j => if j < 7 then 9 else qE s1 (84 + 3 * m + 1) j)) := (qfr.rf s1).uA ⟨Nat.le_refl _, Nat.le_refl _⟩
  have m2 := hm_l (hm_l0 (m := m) m1) hmC Fa
  refine main p hoped v1 h9 (fun k => hall _ (blv_in hD).1 (blv_in hD).2) (fct z) 0 10 s2 _ (Nat.zero_add _) fz2 (Nat.le_refl _) ((F1.mono (by omega) (by omega)).trans ((Fa.mono (by omega) (by omega)).trans (F2.mono (by omega) (by omega)))) (fun x hx => ?_) (fun x hx _ => ?_) (hm_t m2 hM hmC F2 (by omega)) (Or.inl ⟨rfl, rfl⟩)
  · rw [g2 x (by rw [hz] at hx; exact hx), prow_0 hz7 x hx, he x]
    rfl
  · rw [F2.e (by omega), qE_uAs, if_pos hx]
end
