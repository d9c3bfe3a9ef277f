/-! REACH of the class: peaks, top; rows that come to an END, one by one -/
theorem wgh.fr {s s' : QST} {W : VW} {n lo hi : Nat} (h : wgh s W n) (F : qfr lo hi s s') (hr : 112 < lo ∨ hi < 111) : wgh s' W n := ⟨(F.f (by omega)).trans h.1, (F.f (by omega)).trans h.2.1, fun x hx => (F.e (by omega)).trans (h.2.2 x hx)⟩
/-- the peak that is written down for a set -/
def pkv (W : VW) (n T : Nat) (v : Int32) : Prop := (∃ x, CHN W n T x ∧ v = nI x) ∨ ((∀ x, ¬ CHN W n T x) ∧ v = -4)
theorem pkv_ex (W : VW) (n T : Nat) : ∃ v, pkv W n T v := by
  by_cases h : ∃ x, CHN W n T x
  · obtain ⟨x, h⟩ := h; exact ⟨nI x, Or.inl ⟨x, h, rfl⟩⟩
  · exact ⟨-4, Or.inr ⟨fun x hx => h ⟨x, hx⟩, rfl⟩⟩
theorem nI_ne_m4 : ∀ y, y < 7 → ¬ nI y = -4 := by decide
theorem CHN_lt {W : VW} {n T x : Nat} (h : CHN W n T x) : x < n := (CHN_s.mp h).1
theorem cho_of {W : VW} {n T x : Nat} (hn : n ≤ 7) (hT : T < 128) (hb : btn T x) (hx : x < n) : ov W n x &&& (T - 2 ^ x) = T - 2 ^ x ↔ ∀ y, btn T y → y ≠ x → y < n ∧ gbts W x y := by
  have rb := rmb_btn T hT x (by omega) hb
  rw [sub_and]
  constructor
  · intro h y hy hne
    have hy7 := btn7 hT hy
    exact (ov_bit (by omega) (by omega)).mp (h y ((rb y hy7).mpr ⟨hy, hne⟩))
  · intro h y hy
    have hy7 := btn7 (T := T - 2 ^ x) (Nat.lt_of_le_of_lt (Nat.sub_le _ _) hT) hy
    obtain ⟨q1, q2⟩ := (rb y hy7).mp hy
    exact (ov_bit (by omega) (by omega)).mpr (h y q1 q2)
section
variable {X : pm_X} {PR : pm_P} {s : QST} {Q : QPost}
theorem w_peakOf (hP : pm_np PR) {d : Nat} (hd : 1 ≤ d) {W : VW} {p n T : Nat} {v : Int32} (vk : vok W p) (hw : wgh s W n) (hn : n ≤ 7) (hT1 : 1 ≤ T) (hT : T < 128) (hpk : ∀ T', 1 ≤ T' → T' < T → pkv W n T' (qE s 114 T')) (hv : pkv W n T v) (hk : Q (some (.int v)) s) : qP X PR d 57 [.ref 111, .int (nI T)] s Q := by
  obtain ⟨g1, g2, g3⟩ := hw
  refine qP.of (L := [_, _, _, _]) (by omega) (hP _ rfl) ms_Orders_peakOf rfl ?_
  show qW X PR (d - 1) (some .int) cd_Orders_peakOf 0 _ _ _ _
  have loop : ∀ (c x : Nat) (L3 : Option Value), x + c = n → (∀ y, y < x → ¬ CHN W n T y) → qW X PR (d - 1) (some .int) cd_Orders_peakOf 1 [some (.ref (111)), some (.int (nI T)), some (.int (nI x)), L3] [] s Q := by
    intro c
    induction c with
    | zero =>
      intro x L3 hx hno
      have e : x = n := by omega
      subst e
      have hv4 : v = -4 := by
        rcases hv with ⟨y, h1, -⟩ | ⟨-, h2⟩
        · exact absurd h1 (hno y (CHN_lt h1))
        · exact h2
      rw [hv4] at hk
      refine qW.blk rfl ?_
      refine qv_iload rfl ?_
      refine qv_aload rfl ?_
      refine qv_gi ly_111 ⟨rfl, rfl, rfl⟩ (g1) ?_
      refine qv_icmp_geNt rfl rfl (by omega) (by omega) (by omega) (tgt := 8) rfl ?_
      refine qW.blk rfl ?_
      refine qv_iconst (v := (-4)) rfl ?_
      refine qv_iret (rfl) ?_
      exact hk
    | succ c ih =>
      intro x L3 hx hno
      have hpos : 0 < 2 ^ x := Nat.pow_pos (by omega)
      have nx : ¬ CHN W n T x → ∀ L3, qW X PR (d - 1) (some .int) cd_Orders_peakOf 1 [some (.ref (111)), some (.int (nI T)), some (.int (nI (x + 1))), L3] [] s Q := fun h L3 => ih (x + 1) L3 (by omega) (fun y hy => by
        by_cases e : y = x
        · subst e; exact h
        · exact hno y (by omega))
      have yes : CHN W n T x → v = nI x := fun h => by
        rcases hv with ⟨y, h1, h2⟩ | ⟨h1, -⟩
        · rw [h2, CHN_one vk h1 h]
        · exact absurd h (h1 x)
      by_cases hb : btn T x
      · obtain ⟨r1, r2, r3⟩ := (rmb7 T hT x (by omega)).1 hb
        have hl := ov_lt (W := W) (n := n) (x := x) (by omega)
        have ha := and_N (a := ov W n x) (b := T - 2 ^ x) (by omega) (by omega)
        have hco := cho_of (W := W) hn hT hb (show x < n by omega)
        by_cases hc : ov W n x &&& (T - 2 ^ x) = T - 2 ^ x
        · by_cases h0 : T = 2 ^ x
          · rw [yes (CHN_s.mpr ⟨by omega, hb, hco.mp hc, Or.inl h0⟩)] at hk
            refine qW.blk rfl ?_
            refine qv_iload rfl ?_
            refine qv_aload rfl ?_
            refine qv_gi ly_111 ⟨rfl, rfl, rfl⟩ (g1) ?_
            refine qv_icmp_geNf rfl rfl (by omega) (by omega) (by omega) (nx := 2) rfl ?_
            refine qW.blk rfl ?_
            refine qv_iload rfl ?_
            refine qv_iconst (v := 1) rfl ?_
            refine qv_iload rfl ?_
            refine qv_ishl ?_
            refine qv_iconst (v := (-1)) rfl ?_
            refine qv_ixor ?_
            refine qv_iand ?_
            refine qv_top (r3) ?_
            refine qv_istore (L' := [_, _, _, _]) rfl ?_
            refine qv_iload rfl ?_
            refine qv_iload rfl ?_
            refine qv_icmp_eqNf rfl rfl (by omega) (by omega) (by omega) (nx := 3) rfl ?_
            refine qW.blk rfl ?_
            refine qv_aload rfl ?_
            refine qv_gr ly_111 ⟨rfl, rfl, rfl⟩ (by omega) ?_
            refine qv_iload rfl ?_
            refine qv_ia ly_112 rfl (by omega) (by decide) (g3 x (by omega)) ?_
            refine qv_iload rfl ?_
            refine qv_iand ?_
            refine qv_iload rfl ?_
            refine qv_icmp_ne_f (fun q => q (ha.trans (congrArg nI hc))) (nx := 4) rfl ?_
            refine qW.blk rfl ?_
            refine qv_iload rfl ?_
            refine qv_if_eqNt rfl (by omega) (by omega) (tgt := 6) rfl ?_
            refine qW.blk rfl ?_
            refine qv_iload rfl ?_
            refine qv_iret (rfl) ?_
            exact hk
          · have hp := hpk (T - 2 ^ x) (by omega) (by omega)
            rcases hp with ⟨y, h1, h2⟩ | ⟨h1, h2⟩
            · have hy := CHN_lt h1
              rw [yes (CHN_s.mpr ⟨by omega, hb, hco.mp hc, Or.inr ⟨y, h1⟩⟩)] at hk
              refine qW.blk rfl ?_
              refine qv_iload rfl ?_
              refine qv_aload rfl ?_
              refine qv_gi ly_111 ⟨rfl, rfl, rfl⟩ (g1) ?_
              refine qv_icmp_geNf rfl rfl (by omega) (by omega) (by omega) (nx := 2) rfl ?_
              refine qW.blk rfl ?_
              refine qv_iload rfl ?_
              refine qv_iconst (v := 1) rfl ?_
              refine qv_iload rfl ?_
              refine qv_ishl ?_
              refine qv_iconst (v := (-1)) rfl ?_
              refine qv_ixor ?_
              refine qv_iand ?_
              refine qv_top (r3) ?_
              refine qv_istore (L' := [_, _, _, _]) rfl ?_
              refine qv_iload rfl ?_
              refine qv_iload rfl ?_
              refine qv_icmp_eqNf rfl rfl (by omega) (by omega) (by omega) (nx := 3) rfl ?_
              refine qW.blk rfl ?_
              refine qv_aload rfl ?_
              refine qv_gr ly_111 ⟨rfl, rfl, rfl⟩ (by omega) ?_
              refine qv_iload rfl ?_
              refine qv_ia ly_112 rfl (by omega) (by decide) (g3 x (by omega)) ?_
              refine qv_iload rfl ?_
              refine qv_iand ?_
              refine qv_iload rfl ?_
              refine qv_icmp_ne_f (fun q => q (ha.trans (congrArg nI hc))) (nx := 4) rfl ?_
              refine qW.blk rfl ?_
              refine qv_iload rfl ?_
              refine qv_if_eqNf rfl (by omega) (by omega) (nx := 5) rfl ?_
              refine qW.blk rfl ?_
              refine qv_aload rfl ?_
              refine qv_gr ly_111 ⟨rfl, rfl, rfl⟩ (by omega) ?_
              refine qv_iload rfl ?_
              refine qv_ia ly_114 rfl (by omega) (by decide) (h2) ?_
              refine qv_iconst (v := (-4)) rfl ?_
              refine qv_icmp_eq_f (nI_ne_m4 y (by omega)) (nx := 6) rfl ?_
              refine qW.blk rfl ?_
              refine qv_iload rfl ?_
              refine qv_iret (rfl) ?_
              exact hk
            · refine qW.blk rfl ?_
              refine qv_iload rfl ?_
              refine qv_aload rfl ?_
              refine qv_gi ly_111 ⟨rfl, rfl, rfl⟩ (g1) ?_
              refine qv_icmp_geNf rfl rfl (by omega) (by omega) (by omega) (nx := 2) rfl ?_
              refine qW.blk rfl ?_
              refine qv_iload rfl ?_
              refine qv_iconst (v := 1) rfl ?_
              refine qv_iload rfl ?_
              refine qv_ishl ?_
              refine qv_iconst (v := (-1)) rfl ?_
              refine qv_ixor ?_
              refine qv_iand ?_
              refine qv_top (r3) ?_
              refine qv_istore (L' := [_, _, _, _]) rfl ?_
              refine qv_iload rfl ?_
              refine qv_iload rfl ?_
              refine qv_icmp_eqNf rfl rfl (by omega) (by omega) (by omega) (nx := 3) rfl ?_
              refine qW.blk rfl ?_
              refine qv_aload rfl ?_
              refine qv_gr ly_111 ⟨rfl, rfl, rfl⟩ (by omega) ?_
              refine qv_iload rfl ?_
              refine qv_ia ly_112 rfl (by omega) (by decide) (g3 x (by omega)) ?_
              refine qv_iload rfl ?_
              refine qv_iand ?_
              refine qv_iload rfl ?_
              refine qv_icmp_ne_f (fun q => q (ha.trans (congrArg nI hc))) (nx := 4) rfl ?_
              refine qW.blk rfl ?_
              refine qv_iload rfl ?_
              refine qv_if_eqNf rfl (by omega) (by omega) (nx := 5) rfl ?_
              refine qW.blk rfl ?_
              refine qv_aload rfl ?_
              refine qv_gr ly_111 ⟨rfl, rfl, rfl⟩ (by omega) ?_
              refine qv_iload rfl ?_
              refine qv_ia ly_114 rfl (by omega) (by decide) (h2) ?_
              refine qv_iconst (v := (-4)) rfl ?_
              refine qv_icmp_eq_t (rfl) (tgt := 7) rfl ?_
              refine qW.blk rfl ?_
              refine qv_iinc (L' := [_, _, _, _]) rfl (nI_succ _).symm rfl ?_
              refine qv_goto (tgt := 1) rfl ?_
              refine nx (fun hx => ?_) _
              obtain ⟨_, _, _, q⟩ := CHN_s.mp hx
              rcases q with q | ⟨y, q⟩
              · exact h0 q
              · exact h1 y q
        · refine qW.blk rfl ?_
          refine qv_iload rfl ?_
          refine qv_aload rfl ?_
          refine qv_gi ly_111 ⟨rfl, rfl, rfl⟩ (g1) ?_
          refine qv_icmp_geNf rfl rfl (by omega) (by omega) (by omega) (nx := 2) rfl ?_
          refine qW.blk rfl ?_
          refine qv_iload rfl ?_
          refine qv_iconst (v := 1) rfl ?_
          refine qv_iload rfl ?_
          refine qv_ishl ?_
          refine qv_iconst (v := (-1)) rfl ?_
          refine qv_ixor ?_
          refine qv_iand ?_
          refine qv_top (r3) ?_
          refine qv_istore (L' := [_, _, _, _]) rfl ?_
          refine qv_iload rfl ?_
          refine qv_iload rfl ?_
          refine qv_icmp_eqNf rfl rfl (by omega) (by omega) (by omega) (nx := 3) rfl ?_
          refine qW.blk rfl ?_
          refine qv_aload rfl ?_
          refine qv_gr ly_111 ⟨rfl, rfl, rfl⟩ (by omega) ?_
          refine qv_iload rfl ?_
          refine qv_ia ly_112 rfl (by omega) (by decide) (g3 x (by omega)) ?_
          refine qv_iload rfl ?_
          refine qv_iand ?_
          refine qv_iload rfl ?_
          refine qv_icmp_ne_t (fun q => hc ((nI_eq (by have := Nat.and_le_left (n := ov W n x) (m := T - 2 ^ x); omega) (by omega)).mp (ha.symm.trans q))) (tgt := 7) rfl ?_
          refine qW.blk rfl ?_
          refine qv_iinc (L' := [_, _, _, _]) rfl (nI_succ _).symm rfl ?_
          refine qv_goto (tgt := 1) rfl ?_
          exact nx (fun hx => hc (hco.mpr (CHN_s.mp hx).2.2.1)) _
      · obtain ⟨r2, r3⟩ := (rmb7 T hT x (by omega)).2 hb
        refine qW.blk rfl ?_
        refine qv_iload rfl ?_
        refine qv_aload rfl ?_
        refine qv_gi ly_111 ⟨rfl, rfl, rfl⟩ (g1) ?_
        refine qv_icmp_geNf rfl rfl (by omega) (by omega) (by omega) (nx := 2) rfl ?_
        refine qW.blk rfl ?_
        refine qv_iload rfl ?_
        refine qv_iconst (v := 1) rfl ?_
        refine qv_iload rfl ?_
        refine qv_ishl ?_
        refine qv_iconst (v := (-1)) rfl ?_
        refine qv_ixor ?_
        refine qv_iand ?_
        refine qv_top (r3) ?_
        refine qv_istore (L' := [_, _, _, _]) rfl ?_
        refine qv_iload rfl ?_
        refine qv_iload rfl ?_
        refine qv_icmp_eqNt rfl rfl (by omega) (by omega) (by omega) (tgt := 7) rfl ?_
        refine qW.blk rfl ?_
        refine qv_iinc (L' := [_, _, _, _]) rfl (nI_succ _).symm rfl ?_
        refine qv_goto (tgt := 1) rfl ?_
        exact nx (fun hx => hb (CHN_s.mp hx).2.1) _
  refine qW.blk rfl ?_
  refine qv_iconst (v := 0) rfl ?_
  refine qv_istore (L' := [_, _, _, _]) rfl ?_
  refine qv_nil (nx := 1) rfl ?_
  exact loop n 0 _ (by omega) (fun y hy => absurd hy (Nat.not_lt_zero _))
theorem w_peakBits (hP : pm_np PR) {d : Nat} (hd : 3 ≤ d) {W : VW} {p n : Nat} (vk : vok W p) (hw : wgh s W n) (hn1 : 1 ≤ n) (hn : n ≤ 7) (hk : ∀ s' b, qfr 114 114 s s' → b < 128 → (∀ y, y < 7 → (btn b y ↔ (y < n ∧ dch W n y))) → Q (some (.int (nI b))) s') : qP X PR d 56 [.ref 111] s Q := by
  refine qP.of (L := [_, _, _]) (by omega) (hP _ rfl) ms_Orders_peakBits rfl ?_
  show qW X PR (d - 1) (some .int) cd_Orders_peakBits 0 _ _ _ _
  obtain ⟨a1, a2⟩ := all_bit n (by omega)
  have hpos : 0 < 2 ^ n := Nat.pow_pos (by omega)
  have loop : ∀ (c T b : Nat) (s1 : QST), T + c = 2 ^ n → 1 ≤ T → qfr 114 114 s s1 → b < 128 → (∀ y, y < 7 → (btn b y ↔ ∃ T', 1 ≤ T' ∧ T' < T ∧ ¬ btw W n T' ∧ CHN W n T' y)) → (∀ T', 1 ≤ T' → T' < T → pkv W n T' (qE s1 114 T')) → qW X PR (d - 1) (some .int) cd_Orders_peakBits 1 [some (.ref (111)), some (.int (nI b)), some (.int (nI T))] [] s1 Q := by
    intro c
    induction c with
    | zero =>
      intro T b s1 hT hT1 F1 hb hbb hpk
      have e : T = 2 ^ n := by omega
      subst e
      have hw1 := hw.fr F1 (by omega)
      refine qW.blk rfl ?_
      refine qv_iload rfl ?_
      refine qv_aload rfl ?_
      refine qv_gi ly_111 ⟨rfl, rfl, rfl⟩ (hw1.2.1) ?_
      refine qv_icmp_gtNt rfl rfl (by omega) (by omega) (by omega) (tgt := 6) rfl ?_
      refine qW.blk rfl ?_
      refine qv_iload rfl ?_
      refine qv_iret (rfl) ?_
      refine hk s1 b F1 hb (fun y hy => ?_)
      rw [hbb y hy]
      constructor
      · rintro ⟨T', h1, h2, h3, h4⟩; exact ⟨CHN_lt h4, T', h2, h3, h4⟩
      · rintro ⟨-, T', h2, h3, h4⟩
        refine ⟨T', ?_, h2, h3, h4⟩
        rcases Nat.eq_zero_or_pos T' with q | q
        · subst q; exact absurd (CHN_s.mp h4).2.1 (btn0 y)
        · exact q
    | succ c ih =>
      intro T b s1 hT hT1 F1 hb hbb hpk
      have hw1 := hw.fr F1 (by omega)
      obtain ⟨v, hv⟩ := pkv_ex W n T
      have F2 : qfr 114 114 s (uE s1 114 T v) := F1.uE (by omega)
      have hw2 := hw.fr F2 (by omega)
      have hpk2 : ∀ T', 1 ≤ T' → T' < T + 1 → pkv W n T' (qE (uE s1 114 T v) 114 T') := fun T' h1 h2 => by
        by_cases e : T' = T
        · subst e; rw [qE_uEs]; exact hv
        · rw [qE_uEk e]; exact hpk T' h1 (by omega)
      obtain ⟨hdb⟩ : Nonempty (Decidable (btw W n T)) := ⟨Classical.propDecidable _⟩
      have skip : (¬ ∃ x, CHN W n T x ∧ ¬ btw W n T) → qW X PR (d - 1) (some .int) cd_Orders_peakBits 1 [some (.ref (111)), some (.int (nI b)), some (.int (nI (T + 1)))] [] (uE s1 114 T v) Q := fun hno => by
        refine ih (T + 1) b _ (by omega) (by omega) F2 hb (fun y hy => ?_) hpk2
        rw [hbb y hy]
        constructor
        · rintro ⟨T', h1, h2, h3⟩; exact ⟨T', h1, by omega, h3⟩
        · rintro ⟨T', h1, h2, h3, h4⟩
          by_cases e : T' = T
          · subst e; exact absurd ⟨y, h4, h3⟩ hno
          · exact ⟨T', h1, by omega, h3, h4⟩
      rcases hv with ⟨x, h1, h2⟩ | ⟨h1, h2⟩
      · have hx := CHN_lt h1
        have ev : qE (uE s1 114 T v) 114 T = nI x := by rw [qE_uEs]; exact h2
        by_cases hbt : btw W n T
        · refine qW.blk rfl ?_
          refine qv_iload rfl ?_
          refine qv_aload rfl ?_
          refine qv_gi ly_111 ⟨rfl, rfl, rfl⟩ (hw1.2.1) ?_
          refine qv_icmp_gtNf rfl rfl (by omega) (by omega) (by omega) (nx := 2) rfl ?_
          refine qW.blk rfl ?_
          refine qv_aload rfl ?_
          refine qv_gr ly_111 ⟨rfl, rfl, rfl⟩ (by omega) ?_
          refine qv_iload rfl ?_
          refine qv_aload rfl ?_
          refine qv_iload rfl ?_
          refine qv_virt (ly_111.rcv _) sg_Orders_peakOf rfl rfl (w_peakOf hP (by omega) vk hw1 hn hT1 (by omega) hpk (Or.inl ⟨x, h1, h2⟩) ?_) 
          refine qv_is ly_114 rfl (by omega) (by decide) ?_
          refine qv_aload rfl ?_
          refine qv_gr ly_111 ⟨rfl, rfl, rfl⟩ (by omega) ?_
          refine qv_iload rfl ?_
          refine qv_ia ly_114 rfl (by omega) (by decide) (ev) ?_
          refine qv_iconst (v := (-4)) rfl ?_
          refine qv_icmp_eq_f (nI_ne_m4 x (by omega)) (nx := 3) rfl ?_
          refine qW.blk rfl ?_
          refine qv_aload rfl ?_
          refine qv_iload rfl ?_
          refine qv_virt (ly_111.rcv _) sg_Orders_isBeatenWhole rfl rfl (w_isBeatenWhole hP (by omega) hw2 hn (by omega) ?_) 
          refine qv_if_ne_t (bI_ne.mpr (hbt)) (tgt := 5) rfl ?_
          refine qW.blk rfl ?_
          refine qv_iinc (L' := [_, _, _]) rfl (nI_succ _).symm rfl ?_
          refine qv_goto (tgt := 1) rfl ?_
          exact skip (fun ⟨_, _, q⟩ => q hbt)
        · refine qW.blk rfl ?_
          refine qv_iload rfl ?_
          refine qv_aload rfl ?_
          refine qv_gi ly_111 ⟨rfl, rfl, rfl⟩ (hw1.2.1) ?_
          refine qv_icmp_gtNf rfl rfl (by omega) (by omega) (by omega) (nx := 2) rfl ?_
          refine qW.blk rfl ?_
          refine qv_aload rfl ?_
          refine qv_gr ly_111 ⟨rfl, rfl, rfl⟩ (by omega) ?_
          refine qv_iload rfl ?_
          refine qv_aload rfl ?_
          refine qv_iload rfl ?_
          refine qv_virt (ly_111.rcv _) sg_Orders_peakOf rfl rfl (w_peakOf hP (by omega) vk hw1 hn hT1 (by omega) hpk (Or.inl ⟨x, h1, h2⟩) ?_) 
          refine qv_is ly_114 rfl (by omega) (by decide) ?_
          refine qv_aload rfl ?_
          refine qv_gr ly_111 ⟨rfl, rfl, rfl⟩ (by omega) ?_
          refine qv_iload rfl ?_
          refine qv_ia ly_114 rfl (by omega) (by decide) (ev) ?_
          refine qv_iconst (v := (-4)) rfl ?_
          refine qv_icmp_eq_f (nI_ne_m4 x (by omega)) (nx := 3) rfl ?_
          refine qW.blk rfl ?_
          refine qv_aload rfl ?_
          refine qv_iload rfl ?_
          refine qv_virt (ly_111.rcv _) sg_Orders_isBeatenWhole rfl rfl (w_isBeatenWhole hP (by omega) hw2 hn (by omega) ?_) 
          refine qv_if_ne_f (fun zq => zq (bI_f (hbt))) (nx := 4) rfl ?_
          refine qW.blk rfl ?_
          refine qv_iload rfl ?_
          refine qv_iconst (v := 1) rfl ?_
          refine qv_aload rfl ?_
          refine qv_gr ly_111 ⟨rfl, rfl, rfl⟩ (by omega) ?_
          refine qv_iload rfl ?_
          refine qv_ia ly_114 rfl (by omega) (by decide) (ev) ?_
          refine qv_ishl ?_
          refine qv_ior ?_
          refine qv_top ((or7 (show x < 7 by omega) hb).1) ?_
          refine qv_istore (L' := [_, _, _]) rfl ?_
          refine qv_nil (nx := 5) rfl ?_
          refine qW.blk rfl ?_
          refine qv_iinc (L' := [_, _, _]) rfl (nI_succ _).symm rfl ?_
          refine qv_goto (tgt := 1) rfl ?_
          refine ih (T + 1) _ _ (by omega) (by omega) F2 (or7 (show x < 7 by omega) hb).2 (fun y hy => ?_) hpk2
          rw [btn_or, hbb y hy]
          constructor
          · rintro (⟨T', h1, h2, h3⟩ | q)
            · exact ⟨T', h1, by omega, h3⟩
            · subst q; exact ⟨T, hT1, by omega, hbt, h1⟩
          · rintro ⟨T', g1, g2, g3, g4⟩
            by_cases e : T' = T
            · subst e; exact Or.inr (CHN_one vk h1 g4)
            · exact Or.inl ⟨T', g1, by omega, g3, g4⟩
      · have ev : qE (uE s1 114 T v) 114 T = -4 := by rw [qE_uEs]; exact h2
        refine qW.blk rfl ?_
        refine qv_iload rfl ?_
        refine qv_aload rfl ?_
        refine qv_gi ly_111 ⟨rfl, rfl, rfl⟩ (hw1.2.1) ?_
        refine qv_icmp_gtNf rfl rfl (by omega) (by omega) (by omega) (nx := 2) rfl ?_
        refine qW.blk rfl ?_
        refine qv_aload rfl ?_
        refine qv_gr ly_111 ⟨rfl, rfl, rfl⟩ (by omega) ?_
        refine qv_iload rfl ?_
        refine qv_aload rfl ?_
        refine qv_iload rfl ?_
        refine qv_virt (ly_111.rcv _) sg_Orders_peakOf rfl rfl (w_peakOf hP (by omega) vk hw1 hn hT1 (by omega) hpk (Or.inr ⟨h1, h2⟩) ?_) 
        refine qv_is ly_114 rfl (by omega) (by decide) ?_
        refine qv_aload rfl ?_
        refine qv_gr ly_111 ⟨rfl, rfl, rfl⟩ (by omega) ?_
        refine qv_iload rfl ?_
        refine qv_ia ly_114 rfl (by omega) (by decide) (ev) ?_
        refine qv_iconst (v := (-4)) rfl ?_
        refine qv_icmp_eq_t (rfl) (tgt := 5) rfl ?_
        refine qW.blk rfl ?_
        refine qv_iinc (L' := [_, _, _]) rfl (nI_succ _).symm rfl ?_
        refine qv_goto (tgt := 1) rfl ?_
        exact skip (fun ⟨x, q, _⟩ => h1 x q)
  refine qW.blk rfl ?_
  refine qv_iconst (v := 0) rfl ?_
  refine qv_istore (L' := [_, _, _]) rfl ?_
  refine qv_iconst (v := 1) rfl ?_
  refine qv_istore (L' := [_, _, _]) rfl ?_
  refine qv_nil (nx := 1) rfl ?_
  exact loop (2 ^ n - 1) 1 0 s (by omega) (by omega) (qfr.rf s) (by omega) (fun y hy => ⟨fun q => absurd q (btn0 y), fun ⟨T', h1, h2, _⟩ => by omega⟩) (fun T' h1 h2 => by omega)
theorem w_reachBits (hP : pm_np PR) {d : Nat} (hd : 4 ≤ d) {W : VW} {p n : Nat} (vk : vok W p) (hw : wgh s W n) (hn1 : 1 ≤ n) (hn : n ≤ 7) (g : Int32) (hk : ∀ s' b, qfr 114 114 s s' → b < 128 → (∀ y, y < 7 → (btn b y ↔ (y < n ∧ rch W n (if g = 0 then 0 else 1) y))) → Q (some (.int (nI b))) s') : qP X PR d 55 [.ref 111, .int g] s Q := by
  refine qP.of (L := [_, _]) (by omega) (hP _ rfl) ms_Orders_reachBits rfl ?_
  show qW X PR (d - 1) (some .int) cd_Orders_reachBits 0 _ _ _ _
  by_cases hg : g = 0
  · rw [if_pos hg] at hk
    obtain ⟨hdb⟩ : Nonempty (∀ x, Decidable (tops W n x)) := ⟨fun _ => Classical.propDecidable _⟩
    refine qW.blk rfl ?_
    refine qv_iload rfl ?_
    refine qv_if_eq_t (hg) (tgt := 2) rfl ?_
    refine qW.blk rfl ?_
    refine qv_aload rfl ?_
    refine qv_virt (ly_111.rcv _) sg_Orders_topBits rfl rfl (w_topBits hP (by omega) hw hn ?_) 
    refine qv_nil (nx := 3) rfl ?_
    refine qW.blk rfl ?_
    refine qv_iret (rfl) ?_
    exact hk s _ (qfr.rf s) (Nat.lt_of_lt_of_le (bsN_lt n) (two_lt (by omega))) (fun y hy => bsN_bit (by omega) n (by omega))
  · rw [if_neg hg] at hk
    refine qW.blk rfl ?_
    refine qv_iload rfl ?_
    refine qv_if_eq_f (hg) (nx := 1) rfl ?_
    refine qW.blk rfl ?_
    refine qv_aload rfl ?_
    refine qv_virt (ly_111.rcv _) sg_Orders_peakBits rfl rfl (w_peakBits hP (by omega) vk hw hn1 hn (fun s1 b F1 h1 h2 => ?_)) 
    refine qv_goto (tgt := 3) rfl ?_
    refine qW.blk rfl ?_
    refine qv_iret (rfl) ?_
    exact hk s1 b F1 h1 h2
theorem w_comesDeep1 (hP : pm_np PR) {d : Nat} (hd : 1 ≤ d) {x : Nat} (hx : x < 7) (h1 : qE s 113 0 = nI x) (hk : Q (some (.int (nI x))) s) : qP X PR d 53 [.ref 111, .int (nI 1)] s Q := by
  refine qP.of (L := [_, _, _, _, _]) (by omega) (hP _ rfl) ms_Orders_comesDeep rfl ?_
  show qW X PR (d - 1) (some .int) cd_Orders_comesDeep 0 _ _ _ _
  refine qW.blk rfl ?_
  refine qv_aload rfl ?_
  refine qv_gr ly_111 ⟨rfl, rfl, rfl⟩ (by omega) ?_
  refine qv_iload rfl ?_
  refine qv_iconst (v := 1) rfl ?_
  refine qv_isubN (q := 1) rfl rfl (by omega) ?_
  refine qv_ia ly_113 rfl (by omega) (by decide) (h1) ?_
  refine qv_istore (L' := [_, _, _, _, _]) rfl ?_
  refine qv_iconst (v := 1) rfl ?_
  refine qv_iload rfl ?_
  refine qv_ishl ?_
  refine qv_istore (L' := [_, _, _, _, _]) rfl ?_
  refine qv_iload rfl ?_
  refine qv_iconst (v := 2) rfl ?_
  refine qv_isub ?_
  refine qv_istore (L' := [_, _, _, _, _]) rfl ?_
  refine qv_nil (nx := 1) rfl ?_
  refine qW.blk rfl ?_
  refine qv_iload rfl ?_
  refine qv_if_lt_t (by decide) (tgt := 5) rfl ?_
  refine qW.blk rfl ?_
  refine qv_iload rfl ?_
  refine qv_iret (rfl) ?_
  exact hk
theorem w_comesOf1 (hP : pm_np PR) {d : Nat} (hd : 2 ≤ d) {W : VW} {n z : Nat} {l : Nat → Nat} (hw : wgh s W n) (hn : n ≤ 7) (hl : ∀ j, j < z → l j < n) (hz1 : 1 ≤ z) (hz : z ≤ 7) (h1 : ∀ j, j < z → qE s 113 j = nI (l j)) (g : Int32) (hk : Q (some (.int (nI (cmo W n l z (if g = 0 then 0 else 1))))) s) : qP X PR d 52 [.ref 111, .int (nI z), .int g] s Q := by
  by_cases h2 : 2 ≤ z
  · exact w_comesOf hP hd hw hn hl h2 hz h1 g hk
  have e : z = 1 := by omega
  subst e
  have hl0 := hl 0 (by omega)
  refine qP.of (L := [_, _, _]) (by omega) (hP _ rfl) ms_Orders_comesOf rfl ?_
  show qW X PR (d - 1) (some .int) cd_Orders_comesOf 0 _ _ _ _
  by_cases hg : g = 0
  · rw [if_pos hg] at hk
    refine qW.blk rfl ?_
    refine qv_iload rfl ?_
    refine qv_if_eq_t (hg) (tgt := 2) rfl ?_
    refine qW.blk rfl ?_
    refine qv_aload rfl ?_
    refine qv_iload rfl ?_
    refine qv_virt (ly_111.rcv _) sg_Orders_comesPlain rfl rfl (w_comesPlain hP (by omega) hw hn hl (by omega) hz h1 ?_) 
    refine qv_nil (nx := 3) rfl ?_
    refine qW.blk rfl ?_
    refine qv_iret (rfl) ?_
    exact hk
  · rw [if_neg hg] at hk
    have e1 : cmo W n l 1 1 = l 0 := by
      show (if ov W n (l (1 - 1 - 0)) &&& 0 = 0 then (l (1 - 1 - 0), 0 ||| 2 ^ l (1 - 1 - 0)) else (0, 0)).1 = _
      rw [if_pos (Nat.and_zero _)]
    rw [e1] at hk
    refine qW.blk rfl ?_
    refine qv_iload rfl ?_
    refine qv_if_eq_f (hg) (nx := 1) rfl ?_
    refine qW.blk rfl ?_
    refine qv_aload rfl ?_
    refine qv_iload rfl ?_
    refine qv_virt (ly_111.rcv _) sg_Orders_comesDeep rfl rfl (w_comesDeep1 hP (by omega) (show l 0 < 7 by omega) (h1 0 (by omega)) ?_) 
    refine qv_goto (tgt := 3) rfl ?_
    refine qW.blk rfl ?_
    refine qv_iret (rfl) ?_
    exact hk
end
