/-! the class's LAWS: who breaks them -/
theorem tern3 {z kd ch : Nat} {l : Nat → Nat} {x : Nat} (hx : x < 3) : (∀ y, y < 3 → y ≠ x → gbts (wR z kd ch l) x y) ↔ (gbts (wR z kd ch l) x ((x + 1) % 3) ∧ gbts (wR z kd ch l) x ((x + 2) % 3)) := by
  constructor
  · intro h; exact ⟨h _ (by omega) (by omega), h _ (by omega) (by omega)⟩
  · rintro ⟨h1, h2⟩ y hy hne
    rcases (show y = (x + 1) % 3 ∨ y = (x + 2) % 3 by omega) with e | e
    · rw [e]; exact h1
    · rw [e]; exact h2
section
variable {X : pm_X} {PR : pm_P} {s : QST} {Q : QPost}
theorem r_beatsC (hP : pm_np PR) {d : Nat} (hd : 4 ≤ d) {z kd ch : Nat} {l : Nat → Nat} (h : hmx s z kd ch l) (hz : z ≤ 3) (hkd : kd ≤ 1) {x y : Nat} (hx : x < 3) (hy : y < 3) : pm_run X pm_Ms PR d 22 [.ref 74, .int (nI x), .int (nI y)] (qhp s) = some (some (.int (bI (gbts (wR z kd ch l) x y))), qhp s) := by
  rw [← bI_cg ((h.ve hz hkd).bts hx hy)]
  exact r_beats hP hd (h.ok hz hkd) (by omega) (by omega)
theorem w_missesBest (hP : pm_np PR) (hX2 : X 2 = some (18, pm_tbf [0, 1, 2, 0, 2, 1, 1, 0, 2, 2, 0, 1, 1, 2, 0, 2, 1, 0])) {d : Nat} (hd : 5 ≤ d) {z kd ch c : Nat} {w : Nat → Nat → Int32} {D : TD} (hz : z ≤ 3) (hkd : kd ≤ 1) (hc : c < 6 ^ z) (h0 : hm s (wF z kd ch w) 0) (h1 : qF s 121 1 = nI z) (hD : tdOK D) (hE : E3 D) (h2 : qE s 122 c = nI (cend z kd ch D (lkc z c))) [hdec : Decidable (brk0 z kd ch D (lkc z c))] (hk : ∀ s', qfr 84 110 s s' → (∃ w', hm s' (wF z kd ch w') 0) → Q (some (.int (bI (brk0 z kd ch D (lkc z c))))) s') : qP X PR d 38 [.ref 121, .int (nI c)] s Q := by
  refine qP.of (L := [_, _, _]) (by omega) (hP _ rfl) ms_Laws_missesBest rfl ?_
  show qW X PR (d - 1) (some .boolean) cd_Laws_missesBest 0 _ _ _ _
  have hp6 := (pow6 z (by omega)).1
  have he3 := cend_lt (z := z) (kd := kd) (ch := ch) (l := lkc z c) hD hE hz hkd
  have loop : ∀ (s1 : QST), qfr 84 110 s s1 → hmx s1 z kd ch (lkc z c) → ∀ (k x : Nat), x + k = 3 → (∀ y, y < x → ¬ ∀ y', y' < 3 → y' ≠ y → gbts (wR z kd ch (lkc z c)) y y') → qW X PR (d - 1) (some .boolean) cd_Laws_missesBest 1 [some (.ref (121)), some (.int (nI c)), some (.int (nI x))] [] s1 Q := by
    intro s1 F1 x1 k
    have fin := hk s1 F1 (by obtain ⟨w', q, _⟩ := x1; exact ⟨w', q⟩)
    induction k with
    | zero =>
      intro x hx hno
      have e : x = 3 := by omega
      subst e
      rw [bI_f (fun ⟨y, y1, y2, _⟩ => hno y y1 y2)] at fin
      refine qW.blk rfl ?_
      refine qv_iload rfl ?_
      refine qv_iconst (v := 3) rfl ?_
      refine qv_icmp_geNt (q := 3) rfl rfl (by omega) (by omega) (by omega) (tgt := 9) rfl ?_
      refine qW.blk rfl ?_
      refine qv_iconst (v := 0) rfl ?_
      refine qv_iret (by first | exact bI_ret | rfl) ?_
      exact fin
    | succ k ih =>
      intro x hx hno
      have hx3 : x < 3 := by omega
      have ht := tern3 (z := z) (kd := kd) (ch := ch) (l := lkc z c) hx3
      have nx : (¬ ∀ y, y < 3 → y ≠ x → gbts (wR z kd ch (lkc z c)) x y) → qW X PR (d - 1) (some .boolean) cd_Laws_missesBest 1 [some (.ref (121)), some (.int (nI c)), some (.int (nI (x + 1)))] [] s1 Q := fun hn => ih (x + 1) (by omega) (fun y hy => by
        by_cases ey : y = x
        · subst ey; exact hn
        · exact hno y (by omega))
      by_cases b1 : gbts (wR z kd ch (lkc z c)) x ((x + 1) % 3)
      · by_cases b2 : gbts (wR z kd ch (lkc z c)) x ((x + 2) % 3)
        · have hall := ht.mpr ⟨b1, b2⟩
          by_cases hce : cend z kd ch D (lkc z c) = x
          · have hnb : ¬ brk0 z kd ch D (lkc z c) := by
              rintro ⟨y, y1, y2, y3⟩
              by_cases eyx : y = x
              · rw [eyx] at y3; exact y3 hce
              · exact (gbts_tot (wF_ok hz hkd) (fun q => eyx q)).mp (y2 x hx3 (fun q => eyx q.symm)) (hall y y1 eyx)
            rw [bI_f hnb] at fin
            refine qW.blk rfl ?_
            refine qv_iload rfl ?_
            refine qv_iconst (v := 3) rfl ?_
            refine qv_icmp_geNf (q := 3) rfl rfl (by omega) (by omega) (by omega) (nx := 2) rfl ?_
            refine qW.blk rfl ?_
            refine qv_aload rfl ?_
            refine qv_gr ly_121 ⟨rfl, rfl, rfl⟩ (by omega) ?_
            refine qv_iload rfl ?_
            refine qv_iload rfl ?_
            refine qv_iconst (v := 1) rfl ?_
            refine qv_iaddN (q := 1) rfl rfl ?_
            refine qv_iconst (v := 3) rfl ?_
            refine qv_iremN (q := 3) rfl rfl (by omega) (by omega) (by omega) ?_
            refine qv_virtE (ly_74.rcv _) sg_Hall_beats rfl rfl (r_beatsC hP (by omega) x1 hz hkd hx3 (Nat.mod_lt _ (by decide))) ?_
            refine qv_if_eq_f (bI_ne.mpr (b1)) (nx := 3) rfl ?_
            refine qW.blk rfl ?_
            refine qv_aload rfl ?_
            refine qv_gr ly_121 ⟨rfl, rfl, rfl⟩ (by omega) ?_
            refine qv_iload rfl ?_
            refine qv_iload rfl ?_
            refine qv_iconst (v := 2) rfl ?_
            refine qv_iaddN (q := 2) rfl rfl ?_
            refine qv_iconst (v := 3) rfl ?_
            refine qv_iremN (q := 3) rfl rfl (by omega) (by omega) (by omega) ?_
            refine qv_virtE (ly_74.rcv _) sg_Hall_beats rfl rfl (r_beatsC hP (by omega) x1 hz hkd hx3 (Nat.mod_lt _ (by decide))) ?_
            refine qv_if_eq_f (bI_ne.mpr (b2)) (nx := 4) rfl ?_
            refine qW.blk rfl ?_
            refine qv_aload rfl ?_
            refine qv_gr ly_121 ⟨rfl, rfl, rfl⟩ (by omega) ?_
            refine qv_iload rfl ?_
            refine qv_ia ly_122 rfl (by omega) (by decide) ((F1.e (by omega)).trans h2) ?_
            refine qv_iload rfl ?_
            refine qv_icmp_eqNt rfl rfl (by omega) (by omega) (by omega) (tgt := 6) rfl ?_
            refine qW.blk rfl ?_
            refine qv_iconst (v := 0) rfl ?_
            refine qv_nil (nx := 7) rfl ?_
            refine qW.blk rfl ?_
            refine qv_iret (by first | exact bI_ret | rfl) ?_
            exact fin
          · rw [bI_t ⟨x, hx3, hall, hce⟩] at fin
            refine qW.blk rfl ?_
            refine qv_iload rfl ?_
            refine qv_iconst (v := 3) rfl ?_
            refine qv_icmp_geNf (q := 3) rfl rfl (by omega) (by omega) (by omega) (nx := 2) rfl ?_
            refine qW.blk rfl ?_
            refine qv_aload rfl ?_
            refine qv_gr ly_121 ⟨rfl, rfl, rfl⟩ (by omega) ?_
            refine qv_iload rfl ?_
            refine qv_iload rfl ?_
            refine qv_iconst (v := 1) rfl ?_
            refine qv_iaddN (q := 1) rfl rfl ?_
            refine qv_iconst (v := 3) rfl ?_
            refine qv_iremN (q := 3) rfl rfl (by omega) (by omega) (by omega) ?_
            refine qv_virtE (ly_74.rcv _) sg_Hall_beats rfl rfl (r_beatsC hP (by omega) x1 hz hkd hx3 (Nat.mod_lt _ (by decide))) ?_
            refine qv_if_eq_f (bI_ne.mpr (b1)) (nx := 3) rfl ?_
            refine qW.blk rfl ?_
            refine qv_aload rfl ?_
            refine qv_gr ly_121 ⟨rfl, rfl, rfl⟩ (by omega) ?_
            refine qv_iload rfl ?_
            refine qv_iload rfl ?_
            refine qv_iconst (v := 2) rfl ?_
            refine qv_iaddN (q := 2) rfl rfl ?_
            refine qv_iconst (v := 3) rfl ?_
            refine qv_iremN (q := 3) rfl rfl (by omega) (by omega) (by omega) ?_
            refine qv_virtE (ly_74.rcv _) sg_Hall_beats rfl rfl (r_beatsC hP (by omega) x1 hz hkd hx3 (Nat.mod_lt _ (by decide))) ?_
            refine qv_if_eq_f (bI_ne.mpr (b2)) (nx := 4) rfl ?_
            refine qW.blk rfl ?_
            refine qv_aload rfl ?_
            refine qv_gr ly_121 ⟨rfl, rfl, rfl⟩ (by omega) ?_
            refine qv_iload rfl ?_
            refine qv_ia ly_122 rfl (by omega) (by decide) ((F1.e (by omega)).trans h2) ?_
            refine qv_iload rfl ?_
            refine qv_icmp_eqNf rfl rfl (by omega) (by omega) (by omega) (nx := 5) rfl ?_
            refine qW.blk rfl ?_
            refine qv_iconst (v := 1) rfl ?_
            refine qv_goto (tgt := 7) rfl ?_
            refine qW.blk rfl ?_
            refine qv_iret (by first | exact bI_ret | rfl) ?_
            exact fin
        · refine qW.blk rfl ?_
          refine qv_iload rfl ?_
          refine qv_iconst (v := 3) rfl ?_
          refine qv_icmp_geNf (q := 3) rfl rfl (by omega) (by omega) (by omega) (nx := 2) rfl ?_
          refine qW.blk rfl ?_
          refine qv_aload rfl ?_
          refine qv_gr ly_121 ⟨rfl, rfl, rfl⟩ (by omega) ?_
          refine qv_iload rfl ?_
          refine qv_iload rfl ?_
          refine qv_iconst (v := 1) rfl ?_
          refine qv_iaddN (q := 1) rfl rfl ?_
          refine qv_iconst (v := 3) rfl ?_
          refine qv_iremN (q := 3) rfl rfl (by omega) (by omega) (by omega) ?_
          refine qv_virtE (ly_74.rcv _) sg_Hall_beats rfl rfl (r_beatsC hP (by omega) x1 hz hkd hx3 (Nat.mod_lt _ (by decide))) ?_
          refine qv_if_eq_f (bI_ne.mpr (b1)) (nx := 3) rfl ?_
          refine qW.blk rfl ?_
          refine qv_aload rfl ?_
          refine qv_gr ly_121 ⟨rfl, rfl, rfl⟩ (by omega) ?_
          refine qv_iload rfl ?_
          refine qv_iload rfl ?_
          refine qv_iconst (v := 2) rfl ?_
          refine qv_iaddN (q := 2) rfl rfl ?_
          refine qv_iconst (v := 3) rfl ?_
          refine qv_iremN (q := 3) rfl rfl (by omega) (by omega) (by omega) ?_
          refine qv_virtE (ly_74.rcv _) sg_Hall_beats rfl rfl (r_beatsC hP (by omega) x1 hz hkd hx3 (Nat.mod_lt _ (by decide))) ?_
          refine qv_if_eq_t (bI_f (b2)) (tgt := 8) rfl ?_
          refine qW.blk rfl ?_
          refine qv_iinc (L' := [_, _, _]) rfl (nI_succ _).symm rfl ?_
          refine qv_goto (tgt := 1) rfl ?_
          exact nx (fun q => b2 (ht.mp q).2)
      · refine qW.blk rfl ?_
        refine qv_iload rfl ?_
        refine qv_iconst (v := 3) rfl ?_
        refine qv_icmp_geNf (q := 3) rfl rfl (by omega) (by omega) (by omega) (nx := 2) rfl ?_
        refine qW.blk rfl ?_
        refine qv_aload rfl ?_
        refine qv_gr ly_121 ⟨rfl, rfl, rfl⟩ (by omega) ?_
        refine qv_iload rfl ?_
        refine qv_iload rfl ?_
        refine qv_iconst (v := 1) rfl ?_
        refine qv_iaddN (q := 1) rfl rfl ?_
        refine qv_iconst (v := 3) rfl ?_
        refine qv_iremN (q := 3) rfl rfl (by omega) (by omega) (by omega) ?_
        refine qv_virtE (ly_74.rcv _) sg_Hall_beats rfl rfl (r_beatsC hP (by omega) x1 hz hkd hx3 (Nat.mod_lt _ (by decide))) ?_
        refine qv_if_eq_t (bI_f (b1)) (tgt := 8) rfl ?_
        refine qW.blk rfl ?_
        refine qv_iinc (L' := [_, _, _]) rfl (nI_succ _).symm rfl ?_
        refine qv_goto (tgt := 1) rfl ?_
        exact nx (fun q => b1 (ht.mp q).1)
  refine qW.blk rfl ?_
  refine qv_aload rfl ?_
  refine qv_iload rfl ?_
  refine qv_virt (ly_121.rcv _) sg_Laws_like rfl rfl (w_like hP hX2 (by omega) hz hc h0 h1 (fun s1 F1 x1 => ?_)) 
  refine qv_iconst (v := 0) rfl ?_
  refine qv_istore (L' := [_, _, _]) rfl ?_
  refine qv_nil (nx := 1) rfl ?_
  exact loop s1 F1 x1 3 0 rfl (fun y hy => absurd hy (Nat.not_lt_zero _))
theorem w_falls (hP : pm_np PR) (hX2 : X 2 = some (18, pm_tbf [0, 1, 2, 0, 2, 1, 1, 0, 2, 2, 0, 1, 1, 2, 0, 2, 1, 0])) (hX3 : X 3 = some (6, pm_tbf [2, 4, 0, 5, 1, 3])) (hX4 : X 4 = some (6, pm_tbf [1, 0, 3, 2, 5, 4])) {d : Nat} (hd : 1 ≤ d) {oth u lk : Nat} {f : Nat → Nat} (hlk : lk < 6) (hb : ∀ o, o < 6 → oth + o * u < 216) (h1 : ∀ o, o < 6 → qE s 122 (oth + o * u) = nI (f o)) (hf : ∀ o, o < 6 → f o < 3) [hdec : Decidable (0 < plN lk (f lk) ∧ f (liN lk (plN lk (f lk))) ≠ f lk)] (hk : Q (some (.int (bI (0 < plN lk (f lk) ∧ f (liN lk (plN lk (f lk))) ≠ f lk)))) s) : qP X PR d 40 [.ref 121, .int (nI oth), .int (nI u), .int (nI lk)] s Q := by
  refine qP.of (L := [_, _, _, _, _, _, _]) (by omega) (hP _ rfl) ms_Laws_fallsWhenLifted rfl ?_
  show qW X PR (d - 1) (some .boolean) cd_Laws_fallsWhenLifted 0 _ _ _ _
  have b0 := hb lk hlk
  have f0 := hf lk hlk
  obtain ⟨t1, t2⟩ := plN_tb lk hlk (f lk) f0
  obtain ⟨l1, l2, l3, l4⟩ := liN_tb lk hlk
  by_cases p0 : plN lk (f lk) = 0
  · rw [bI_f (fun q => by omega)] at hk
    refine qW.blk rfl ?_
    refine qv_aload rfl ?_
    refine qv_gr ly_121 ⟨rfl, rfl, rfl⟩ (by omega) ?_
    refine qv_iload rfl ?_
    refine qv_iload rfl ?_
    refine qv_iload rfl ?_
    refine qv_imulN rfl rfl ?_
    refine qv_iaddN rfl rfl ?_
    refine qv_ia ly_122 rfl (by omega) (by decide) (h1 lk hlk) ?_
    refine qv_istore (L' := [_, _, _, _, _, _, _]) rfl ?_
    refine qv_gets ?_
    refine qv_iload rfl ?_
    refine qv_iconst (v := 3) rfl ?_
    refine qv_imulN (q := 3) rfl rfl ?_
    refine qv_iload rfl ?_
    refine qv_iaddN rfl rfl ?_
    refine qv_ix hX2 (by decide) rfl (by omega) (by omega) (t1) ?_
    refine qv_istore (L' := [_, _, _, _, _, _, _]) rfl ?_
    refine qv_iload rfl ?_
    refine qv_if_neNf rfl (by omega) (by omega) (nx := 1) rfl ?_
    refine qW.blk rfl ?_
    refine qv_iconst (v := 0) rfl ?_
    refine qv_iret (by first | exact bI_ret | rfl) ?_
    exact hk
  · by_cases p1 : plN lk (f lk) = 1
    · have b1 := hb _ l3
      have f1 := hf _ l3
      by_cases he : f (liN lk 1) = f lk
      · rw [bI_f (fun q => q.2 (by rw [p1]; exact he))] at hk
        refine qW.blk rfl ?_
        refine qv_aload rfl ?_
        refine qv_gr ly_121 ⟨rfl, rfl, rfl⟩ (by omega) ?_
        refine qv_iload rfl ?_
        refine qv_iload rfl ?_
        refine qv_iload rfl ?_
        refine qv_imulN rfl rfl ?_
        refine qv_iaddN rfl rfl ?_
        refine qv_ia ly_122 rfl (by omega) (by decide) (h1 lk hlk) ?_
        refine qv_istore (L' := [_, _, _, _, _, _, _]) rfl ?_
        refine qv_gets ?_
        refine qv_iload rfl ?_
        refine qv_iconst (v := 3) rfl ?_
        refine qv_imulN (q := 3) rfl rfl ?_
        refine qv_iload rfl ?_
        refine qv_iaddN rfl rfl ?_
        refine qv_ix hX2 (by decide) rfl (by omega) (by omega) (t1) ?_
        refine qv_istore (L' := [_, _, _, _, _, _, _]) rfl ?_
        refine qv_iload rfl ?_
        refine qv_if_neNt rfl (by omega) (by omega) (tgt := 2) rfl ?_
        refine qW.blk rfl ?_
        refine qv_iload rfl ?_
        refine qv_iconst (v := 1) rfl ?_
        refine qv_icmp_neNf (q := 1) rfl rfl (by omega) (by omega) (by omega) (nx := 3) rfl ?_
        refine qW.blk rfl ?_
        refine qv_gets ?_
        refine qv_iload rfl ?_
        refine qv_ix hX3 (by decide) rfl (by omega) (by omega) (l1) ?_
        refine qv_goto (tgt := 5) rfl ?_
        refine qW.blk rfl ?_
        refine qv_istore (L' := [_, _, _, _, _, _, _]) rfl ?_
        refine qv_aload rfl ?_
        refine qv_gr ly_121 ⟨rfl, rfl, rfl⟩ (by omega) ?_
        refine qv_iload rfl ?_
        refine qv_iload rfl ?_
        refine qv_iload rfl ?_
        refine qv_imulN rfl rfl ?_
        refine qv_iaddN rfl rfl ?_
        refine qv_ia ly_122 rfl (by omega) (by decide) (h1 _ l3) ?_
        refine qv_iload rfl ?_
        refine qv_icmp_eqNt rfl rfl (by omega) (by omega) (by omega) (tgt := 7) rfl ?_
        refine qW.blk rfl ?_
        refine qv_iconst (v := 0) rfl ?_
        refine qv_nil (nx := 8) rfl ?_
        refine qW.blk rfl ?_
        refine qv_iret (by first | exact bI_ret | rfl) ?_
        exact hk
      · rw [bI_t (show 0 < plN lk (f lk) ∧ f (liN lk (plN lk (f lk))) ≠ f lk from ⟨by omega, by rw [p1]; exact he⟩)] at hk
        refine qW.blk rfl ?_
        refine qv_aload rfl ?_
        refine qv_gr ly_121 ⟨rfl, rfl, rfl⟩ (by omega) ?_
        refine qv_iload rfl ?_
        refine qv_iload rfl ?_
        refine qv_iload rfl ?_
        refine qv_imulN rfl rfl ?_
        refine qv_iaddN rfl rfl ?_
        refine qv_ia ly_122 rfl (by omega) (by decide) (h1 lk hlk) ?_
        refine qv_istore (L' := [_, _, _, _, _, _, _]) rfl ?_
        refine qv_gets ?_
        refine qv_iload rfl ?_
        refine qv_iconst (v := 3) rfl ?_
        refine qv_imulN (q := 3) rfl rfl ?_
        refine qv_iload rfl ?_
        refine qv_iaddN rfl rfl ?_
        refine qv_ix hX2 (by decide) rfl (by omega) (by omega) (t1) ?_
        refine qv_istore (L' := [_, _, _, _, _, _, _]) rfl ?_
        refine qv_iload rfl ?_
        refine qv_if_neNt rfl (by omega) (by omega) (tgt := 2) rfl ?_
        refine qW.blk rfl ?_
        refine qv_iload rfl ?_
        refine qv_iconst (v := 1) rfl ?_
        refine qv_icmp_neNf (q := 1) rfl rfl (by omega) (by omega) (by omega) (nx := 3) rfl ?_
        refine qW.blk rfl ?_
        refine qv_gets ?_
        refine qv_iload rfl ?_
        refine qv_ix hX3 (by decide) rfl (by omega) (by omega) (l1) ?_
        refine qv_goto (tgt := 5) rfl ?_
        refine qW.blk rfl ?_
        refine qv_istore (L' := [_, _, _, _, _, _, _]) rfl ?_
        refine qv_aload rfl ?_
        refine qv_gr ly_121 ⟨rfl, rfl, rfl⟩ (by omega) ?_
        refine qv_iload rfl ?_
        refine qv_iload rfl ?_
        refine qv_iload rfl ?_
        refine qv_imulN rfl rfl ?_
        refine qv_iaddN rfl rfl ?_
        refine qv_ia ly_122 rfl (by omega) (by decide) (h1 _ l3) ?_
        refine qv_iload rfl ?_
        refine qv_icmp_eqNf rfl rfl (by omega) (by omega) (by omega) (nx := 6) rfl ?_
        refine qW.blk rfl ?_
        refine qv_iconst (v := 1) rfl ?_
        refine qv_goto (tgt := 8) rfl ?_
        refine qW.blk rfl ?_
        refine qv_iret (by first | exact bI_ret | rfl) ?_
        exact hk
    · have p2 : plN lk (f lk) = 2 := by omega
      have b1 := hb _ l4
      have f1 := hf _ l4
      by_cases he : f (liN lk 2) = f lk
      · rw [bI_f (fun q => q.2 (by rw [p2]; exact he))] at hk
        refine qW.blk rfl ?_
        refine qv_aload rfl ?_
        refine qv_gr ly_121 ⟨rfl, rfl, rfl⟩ (by omega) ?_
        refine qv_iload rfl ?_
        refine qv_iload rfl ?_
        refine qv_iload rfl ?_
        refine qv_imulN rfl rfl ?_
        refine qv_iaddN rfl rfl ?_
        refine qv_ia ly_122 rfl (by omega) (by decide) (h1 lk hlk) ?_
        refine qv_istore (L' := [_, _, _, _, _, _, _]) rfl ?_
        refine qv_gets ?_
        refine qv_iload rfl ?_
        refine qv_iconst (v := 3) rfl ?_
        refine qv_imulN (q := 3) rfl rfl ?_
        refine qv_iload rfl ?_
        refine qv_iaddN rfl rfl ?_
        refine qv_ix hX2 (by decide) rfl (by omega) (by omega) (t1) ?_
        refine qv_istore (L' := [_, _, _, _, _, _, _]) rfl ?_
        refine qv_iload rfl ?_
        refine qv_if_neNt rfl (by omega) (by omega) (tgt := 2) rfl ?_
        refine qW.blk rfl ?_
        refine qv_iload rfl ?_
        refine qv_iconst (v := 1) rfl ?_
        refine qv_icmp_neNt (q := 1) rfl rfl (by omega) (by omega) (by omega) (tgt := 4) rfl ?_
        refine qW.blk rfl ?_
        refine qv_gets ?_
        refine qv_iload rfl ?_
        refine qv_ix hX4 (by decide) rfl (by omega) (by omega) (l2) ?_
        refine qv_nil (nx := 5) rfl ?_
        refine qW.blk rfl ?_
        refine qv_istore (L' := [_, _, _, _, _, _, _]) rfl ?_
        refine qv_aload rfl ?_
        refine qv_gr ly_121 ⟨rfl, rfl, rfl⟩ (by omega) ?_
        refine qv_iload rfl ?_
        refine qv_iload rfl ?_
        refine qv_iload rfl ?_
        refine qv_imulN rfl rfl ?_
        refine qv_iaddN rfl rfl ?_
        refine qv_ia ly_122 rfl (by omega) (by decide) (h1 _ l4) ?_
        refine qv_iload rfl ?_
        refine qv_icmp_eqNt rfl rfl (by omega) (by omega) (by omega) (tgt := 7) rfl ?_
        refine qW.blk rfl ?_
        refine qv_iconst (v := 0) rfl ?_
        refine qv_nil (nx := 8) rfl ?_
        refine qW.blk rfl ?_
        refine qv_iret (by first | exact bI_ret | rfl) ?_
        exact hk
      · rw [bI_t (show 0 < plN lk (f lk) ∧ f (liN lk (plN lk (f lk))) ≠ f lk from ⟨by omega, by rw [p2]; exact he⟩)] at hk
        refine qW.blk rfl ?_
        refine qv_aload rfl ?_
        refine qv_gr ly_121 ⟨rfl, rfl, rfl⟩ (by omega) ?_
        refine qv_iload rfl ?_
        refine qv_iload rfl ?_
        refine qv_iload rfl ?_
        refine qv_imulN rfl rfl ?_
        refine qv_iaddN rfl rfl ?_
        refine qv_ia ly_122 rfl (by omega) (by decide) (h1 lk hlk) ?_
        refine qv_istore (L' := [_, _, _, _, _, _, _]) rfl ?_
        refine qv_gets ?_
        refine qv_iload rfl ?_
        refine qv_iconst (v := 3) rfl ?_
        refine qv_imulN (q := 3) rfl rfl ?_
        refine qv_iload rfl ?_
        refine qv_iaddN rfl rfl ?_
        refine qv_ix hX2 (by decide) rfl (by omega) (by omega) (t1) ?_
        refine qv_istore (L' := [_, _, _, _, _, _, _]) rfl ?_
        refine qv_iload rfl ?_
        refine qv_if_neNt rfl (by omega) (by omega) (tgt := 2) rfl ?_
        refine qW.blk rfl ?_
        refine qv_iload rfl ?_
        refine qv_iconst (v := 1) rfl ?_
        refine qv_icmp_neNt (q := 1) rfl rfl (by omega) (by omega) (by omega) (tgt := 4) rfl ?_
        refine qW.blk rfl ?_
        refine qv_gets ?_
        refine qv_iload rfl ?_
        refine qv_ix hX4 (by decide) rfl (by omega) (by omega) (l2) ?_
        refine qv_nil (nx := 5) rfl ?_
        refine qW.blk rfl ?_
        refine qv_istore (L' := [_, _, _, _, _, _, _]) rfl ?_
        refine qv_aload rfl ?_
        refine qv_gr ly_121 ⟨rfl, rfl, rfl⟩ (by omega) ?_
        refine qv_iload rfl ?_
        refine qv_iload rfl ?_
        refine qv_iload rfl ?_
        refine qv_imulN rfl rfl ?_
        refine qv_iaddN rfl rfl ?_
        refine qv_ia ly_122 rfl (by omega) (by decide) (h1 _ l4) ?_
        refine qv_iload rfl ?_
        refine qv_icmp_eqNf rfl rfl (by omega) (by omega) (by omega) (nx := 6) rfl ?_
        refine qW.blk rfl ?_
        refine qv_iconst (v := 1) rfl ?_
        refine qv_goto (tgt := 8) rfl ?_
        refine qW.blk rfl ?_
        refine qv_iret (by first | exact bI_ret | rfl) ?_
        exact hk
theorem w_gainsL (hP : pm_np PR) (hX2 : X 2 = some (18, pm_tbf [0, 1, 2, 0, 2, 1, 1, 0, 2, 2, 0, 1, 1, 2, 0, 2, 1, 0])) {d : Nat} (hd : 1 ≤ d) {oth u lk : Nat} {f : Nat → Nat} (hlk : lk < 6) (hb : ∀ o, o < 6 → oth + o * u < 216) (h1 : ∀ o, o < 6 → qE s 122 (oth + o * u) = nI (f o)) (hf : ∀ o, o < 6 → f o < 3) [hdec : Decidable (∃ o, o < 6 ∧ plN lk (f o) < plN lk (f lk))] (hk : Q (some (.int (bI (∃ o, o < 6 ∧ plN lk (f o) < plN lk (f lk))))) s) : qP X PR d 41 [.ref 121, .int (nI oth), .int (nI u), .int (nI lk)] s Q := by
  refine qP.of (L := [_, _, _, _, _, _, _]) (by omega) (hP _ rfl) ms_Laws_gainsByLying rfl ?_
  show qW X PR (d - 1) (some .boolean) cd_Laws_gainsByLying 0 _ _ _ _
  have b0 := hb lk hlk
  have f0 := hf lk hlk
  obtain ⟨t1, t2⟩ := plN_tb lk hlk (f lk) f0
  have loop : ∀ (c o : Nat), o + c = 6 → (∀ o', o' < o → ¬ plN lk (f o') < plN lk (f lk)) → qW X PR (d - 1) (some .boolean) cd_Laws_gainsByLying 1 [some (.ref (121)), some (.int (nI oth)), some (.int (nI u)), some (.int (nI lk)), some (.int (nI (lk * 3))), some (.int (nI (plN lk (f lk)))), some (.int (nI o))] [] s Q := by
    intro c
    induction c with
    | zero =>
      intro o ho hno
      have e : o = 6 := by omega
      subst e
      rw [bI_f (fun ⟨o', q1, q2⟩ => hno o' q1 q2)] at hk
      refine qW.blk rfl ?_
      refine qv_iload rfl ?_
      refine qv_iconst (v := 6) rfl ?_
      refine qv_icmp_geNt (q := 6) rfl rfl (by omega) (by omega) (by omega) (tgt := 5) rfl ?_
      refine qW.blk rfl ?_
      refine qv_iconst (v := 0) rfl ?_
      refine qv_iret (by first | exact bI_ret | rfl) ?_
      exact hk
    | succ c ih =>
      intro o ho hno
      have bo := hb o (by omega)
      have fo := hf o (by omega)
      obtain ⟨u1, u2⟩ := plN_tb lk hlk (f o) fo
      by_cases hg : plN lk (f o) < plN lk (f lk)
      · rw [bI_t ⟨o, by omega, hg⟩] at hk
        refine qW.blk rfl ?_
        refine qv_iload rfl ?_
        refine qv_iconst (v := 6) rfl ?_
        refine qv_icmp_geNf (q := 6) rfl rfl (by omega) (by omega) (by omega) (nx := 2) rfl ?_
        refine qW.blk rfl ?_
        refine qv_gets ?_
        refine qv_iload rfl ?_
        refine qv_aload rfl ?_
        refine qv_gr ly_121 ⟨rfl, rfl, rfl⟩ (by omega) ?_
        refine qv_iload rfl ?_
        refine qv_iload rfl ?_
        refine qv_iload rfl ?_
        refine qv_imulN rfl rfl ?_
        refine qv_iaddN rfl rfl ?_
        refine qv_ia ly_122 rfl (by omega) (by decide) (h1 o (by omega)) ?_
        refine qv_iaddN rfl rfl ?_
        refine qv_ix hX2 (by decide) rfl (by omega) (by omega) (u1) ?_
        refine qv_iload rfl ?_
        refine qv_icmp_geNf rfl rfl (by omega) (by omega) (by omega) (nx := 3) rfl ?_
        refine qW.blk rfl ?_
        refine qv_iconst (v := 1) rfl ?_
        refine qv_iret (by first | exact bI_ret | rfl) ?_
        exact hk
      · refine qW.blk rfl ?_
        refine qv_iload rfl ?_
        refine qv_iconst (v := 6) rfl ?_
        refine qv_icmp_geNf (q := 6) rfl rfl (by omega) (by omega) (by omega) (nx := 2) rfl ?_
        refine qW.blk rfl ?_
        refine qv_gets ?_
        refine qv_iload rfl ?_
        refine qv_aload rfl ?_
        refine qv_gr ly_121 ⟨rfl, rfl, rfl⟩ (by omega) ?_
        refine qv_iload rfl ?_
        refine qv_iload rfl ?_
        refine qv_iload rfl ?_
        refine qv_imulN rfl rfl ?_
        refine qv_iaddN rfl rfl ?_
        refine qv_ia ly_122 rfl (by omega) (by decide) (h1 o (by omega)) ?_
        refine qv_iaddN rfl rfl ?_
        refine qv_ix hX2 (by decide) rfl (by omega) (by omega) (u1) ?_
        refine qv_iload rfl ?_
        refine qv_icmp_geNt rfl rfl (by omega) (by omega) (by omega) (tgt := 4) rfl ?_
        refine qW.blk rfl ?_
        refine qv_iinc (L' := [_, _, _, _, _, _, _]) rfl (nI_succ _).symm rfl ?_
        refine qv_goto (tgt := 1) rfl ?_
        exact ih (o + 1) (by omega) (fun o' ho' => by
          by_cases e : o' = o
          · subst e; exact hg
          · exact hno o' (by omega))
  refine qW.blk rfl ?_
  refine qv_iload rfl ?_
  refine qv_iconst (v := 3) rfl ?_
  refine qv_imulN (q := 3) rfl rfl ?_
  refine qv_istore (L' := [_, _, _, _, _, _, _]) rfl ?_
  refine qv_gets ?_
  refine qv_iload rfl ?_
  refine qv_aload rfl ?_
  refine qv_gr ly_121 ⟨rfl, rfl, rfl⟩ (by omega) ?_
  refine qv_iload rfl ?_
  refine qv_iload rfl ?_
  refine qv_iload rfl ?_
  refine qv_imulN rfl rfl ?_
  refine qv_iaddN rfl rfl ?_
  refine qv_ia ly_122 rfl (by omega) (by decide) (h1 lk hlk) ?_
  refine qv_iaddN rfl rfl ?_
  refine qv_ix hX2 (by decide) rfl (by omega) (by omega) (t1) ?_
  refine qv_istore (L' := [_, _, _, _, _, _, _]) rfl ?_
  refine qv_iconst (v := 0) rfl ?_
  refine qv_istore (L' := [_, _, _, _, _, _, _]) rfl ?_
  refine qv_nil (nx := 1) rfl ?_
  exact loop 6 0 rfl (fun o' h => absurd h (Nat.not_lt_zero _))
theorem w_brokenByOne (hP : pm_np PR) (hX2 : X 2 = some (18, pm_tbf [0, 1, 2, 0, 2, 1, 1, 0, 2, 2, 0, 1, 1, 2, 0, 2, 1, 0])) (hX3 : X 3 = some (6, pm_tbf [2, 4, 0, 5, 1, 3])) (hX4 : X 4 = some (6, pm_tbf [1, 0, 3, 2, 5, 4])) {d : Nat} (hd : 2 ≤ d) {z kd ch c law : Nat} {D : TD} (hz : z ≤ 3) (hkd : kd ≤ 1) (hc : c < 6 ^ z) (h1 : qF s 121 1 = nI z) (hD : tdOK D) (hE : E3 D) (h2 : ∀ c, c < 6 ^ z → qE s 122 c = nI (cend z kd ch D (lkc z c))) (hlaw : law = 1 ∨ law = 2) [hdec : Decidable (brk z kd ch D law (lkc z c))] (hk : Q (some (.int (bI (brk z kd ch D law (lkc z c))))) s) : qP X PR d 39 [.ref 121, .int (nI law), .int (nI c)] s Q := by
  refine qP.of (L := [_, _, _, _, _, _, _, _]) (by omega) (hP _ rfl) ms_Laws_isBrokenByOne rfl ?_
  show qW X PR (d - 1) (some .boolean) cd_Laws_isBrokenByOne 0 _ _ _ _
  have hp6 := (pow6 z (by omega)).1
  obtain ⟨hd2⟩ : Nonempty (∀ (lk : Nat) (f : Nat → Nat), Decidable (∃ o, o < 6 ∧ plN lk (f o) < plN lk (f lk))) := ⟨fun _ _ => Classical.propDecidable _⟩
  have ebrk : brk z kd ch D law (lkc z c) ↔ ∃ j, j < z ∧ (if law = 1 then brk1 z kd ch D (lkc z c) j else brk2 z kd ch D (lkc z c) j) := by
    unfold brk; rw [if_neg (by omega)]
  have loop : ∀ (r : Nat) (v : Int32) (L6 L7 : Option Value), r ≤ z → v = nI r - 1 → (∀ j, r ≤ j → j < z → ¬ (if law = 1 then brk1 z kd ch D (lkc z c) j else brk2 z kd ch D (lkc z c) j)) → qW X PR (d - 1) (some .boolean) cd_Laws_isBrokenByOne 1 [some (.ref (121)), some (.int (nI law)), some (.int (nI c)), some (.int (nI (6 ^ (z - r)))), some (.int (nI (c / 6 ^ (z - r)))), some (.int (v)), L6, L7] [] s Q := by
    intro r
    induction r with
    | zero =>
      intro v L6 L7 hr hv hno
      subst hv
      rw [bI_f (fun q => by obtain ⟨j, j1, j2⟩ := ebrk.mp q; exact hno j (by omega) j1 j2)] at hk
      refine qW.blk rfl ?_
      refine qv_iload rfl ?_
      refine qv_if_lt_t (by decide) (tgt := 8) rfl ?_
      refine qW.blk rfl ?_
      refine qv_iconst (v := 0) rfl ?_
      refine qv_iret (by first | exact bI_ret | rfl) ?_
      exact hk
    | succ r ih =>
      intro v L6 L7 hr hv hno
      rw [nI_dec] at hv
      subst hv
      obtain ⟨u, hu⟩ : ∃ u, 6 ^ (z - (r + 1)) = u := ⟨_, rfl⟩
      have hu2 : 6 ^ (z - 1 - r) = u := by rw [← hu, show z - 1 - r = z - (r + 1) by omega]
      have hu3 : 6 ^ (z - r) = u * 6 := by rw [← hu, show z - r = z - (r + 1) + 1 by omega, Nat.pow_succ]
      have hlkc : c / u % 6 = lkc z c r := by unfold lkc; rw [hu2]
      have hlk6 : lkc z c r < 6 := lkc_lt
      have hu0 : 0 < u := by rw [← hu]; exact Nat.pow_pos (by decide)
      have hub : u ≤ 216 := by
        rw [← hu]
        exact Nat.le_trans (Nat.pow_le_pow_right (by decide) (by omega)) hp6
      have hsub : lkc z c r * u ≤ c := by
        have := (cw_chk (z - 1 - r) (by omega) c (by omega)).1
        rw [hu2, hlkc] at this
        exact this
      have ecw : ∀ o, c - lkc z c r * u + o * u = cw z c r o := fun o => by unfold cw; rw [hu2]
      have hb : ∀ o, o < 6 → c - lkc z c r * u + o * u < 216 := fun o ho => by
        rw [ecw]
        have := cw_lt hz (show r < z by omega) hc ho
        omega
      have h3 : ∀ o, o < 6 → qE s 122 (c - lkc z c r * u + o * u) = nI (cend z kd ch D (lkc z (cw z c r o))) := fun o ho => by
        rw [ecw]; exact h2 _ (cw_lt hz (by omega) hc ho)
      have hf : ∀ o, o < 6 → cend z kd ch D (lkc z (cw z c r o)) < 3 := fun o _ => cend_lt hD hE hz hkd
      have own : cend z kd ch D (lkc z (cw z c r (lkc z c r))) = cend z kd ch D (lkc z c) := by
        have : cw z c r (lkc z c r) = c := by rw [← ecw]; omega
        rw [this]
      have e1 : (0 < plN (lkc z c r) (cend z kd ch D (lkc z (cw z c r (lkc z c r)))) ∧ cend z kd ch D (lkc z (cw z c r (liN (lkc z c r) (plN (lkc z c r) (cend z kd ch D (lkc z (cw z c r (lkc z c r)))))))) ≠ cend z kd ch D (lkc z (cw z c r (lkc z c r)))) ↔ brk1 z kd ch D (lkc z c) r := by
        unfold brk1
        rw [own]
        have hce := cend_lt (z := z) (kd := kd) (ch := ch) (l := lkc z c) hD hE hz hkd
        have hp3 := plN_lt (lkc z c r) hlk6 (cend z kd ch D (lkc z c)) (by omega)
        obtain ⟨_, _, l3, l4⟩ := liN_tb (lkc z c r) hlk6
        constructor
        · rintro ⟨q1, q2⟩
          refine ⟨q1, ?_⟩
          rw [← cend_cw hD hz hkd (by omega) hc (by
            rcases (show plN (lkc z c r) (cend z kd ch D (lkc z c)) = 1 ∨ plN (lkc z c r) (cend z kd ch D (lkc z c)) = 2 by omega) with e | e <;> rw [e] <;> assumption)]
          exact q2
        · rintro ⟨q1, q2⟩
          refine ⟨q1, ?_⟩
          rw [cend_cw hD hz hkd (by omega) hc (by
            rcases (show plN (lkc z c r) (cend z kd ch D (lkc z c)) = 1 ∨ plN (lkc z c r) (cend z kd ch D (lkc z c)) = 2 by omega) with e | e <;> rw [e] <;> assumption)]
          exact q2
      have e2 : (∃ o, o < 6 ∧ plN (lkc z c r) (cend z kd ch D (lkc z (cw z c r o))) < plN (lkc z c r) (cend z kd ch D (lkc z (cw z c r (lkc z c r))))) ↔ brk2 z kd ch D (lkc z c) r := by
        unfold brk2
        rw [own]
        constructor
        · rintro ⟨o, o1, o2⟩; exact ⟨o, o1, by rw [← cend_cw hD hz hkd (by omega) hc o1]; exact o2⟩
        · rintro ⟨o, o1, o2⟩; exact ⟨o, o1, by rw [cend_cw hD hz hkd (by omega) hc o1]; exact o2⟩
      have hcu : c / u ≤ c := Nat.div_le_self _ _
      have nx : ¬ (if law = 1 then brk1 z kd ch D (lkc z c) r else brk2 z kd ch D (lkc z c) r) → ∀ L6 L7, qW X PR (d - 1) (some .boolean) cd_Laws_isBrokenByOne 1 [some (.ref (121)), some (.int (nI law)), some (.int (nI c)), some (.int (nI (u * 6))), some (.int (nI (c / (u * 6)))), some (.int (nI r - 1)), L6, L7] [] s Q := fun hn L6 L7 => by
        have := ih (nI r - 1) L6 L7 (by omega) rfl (fun j h1 h2 => by
          by_cases e : j = r
          · subst e; exact hn
          · exact hno j (by omega) h2)
        rw [hu3] at this
        exact this
      rw [hu]
      rcases hlaw with hl | hl
      · subst hl
        rw [if_pos rfl] at nx
        by_cases hb1 : brk1 z kd ch D (lkc z c) r
        · rw [bI_t (ebrk.mpr ⟨r, by omega, by rw [if_pos rfl]; exact hb1⟩)] at hk
          refine qW.blk rfl ?_
          refine qv_iload rfl ?_
          refine qv_if_lt_f (Int32.not_lt.mpr (nI_pos' (by omega))) (nx := 2) rfl ?_
          refine qW.blk rfl ?_
          refine qv_iload rfl ?_
          refine qv_iconst (v := 6) rfl ?_
          refine qv_iremN (q := 6) rfl rfl (by omega) (by omega) (by omega) ?_
          refine qv_top (congrArg nI hlkc) ?_
          refine qv_istore (L' := [_, _, _, _, _, _, _, _]) rfl ?_
          refine qv_iload rfl ?_
          refine qv_iload rfl ?_
          refine qv_iload rfl ?_
          refine qv_imulN rfl rfl ?_
          refine qv_isubN rfl rfl (by omega) ?_
          refine qv_istore (L' := [_, _, _, _, _, _, _, _]) rfl ?_
          refine qv_iload rfl ?_
          refine qv_iconst (v := 1) rfl ?_
          refine qv_icmp_neNf (q := 1) rfl rfl (by omega) (by omega) (by omega) (nx := 3) rfl ?_
          refine qW.blk rfl ?_
          refine qv_aload rfl ?_
          refine qv_iload rfl ?_
          refine qv_iload rfl ?_
          refine qv_iload rfl ?_
          refine qv_virt (ly_121.rcv _) sg_Laws_fallsWhenLifted rfl rfl (w_falls hP hX2 hX3 hX4 (by omega) (f := fun o => cend z kd ch D (lkc z (cw z c r o))) hlk6 hb h3 hf ?_) 
          refine qv_if_eq_f (bI_ne.mpr (e1.mpr hb1)) (nx := 4) rfl ?_
          refine qW.blk rfl ?_
          refine qv_goto (tgt := 6) rfl ?_
          refine qW.blk rfl ?_
          refine qv_iconst (v := 1) rfl ?_
          refine qv_iret (by first | exact bI_ret | rfl) ?_
          exact hk
        · refine qW.blk rfl ?_
          refine qv_iload rfl ?_
          refine qv_if_lt_f (Int32.not_lt.mpr (nI_pos' (by omega))) (nx := 2) rfl ?_
          refine qW.blk rfl ?_
          refine qv_iload rfl ?_
          refine qv_iconst (v := 6) rfl ?_
          refine qv_iremN (q := 6) rfl rfl (by omega) (by omega) (by omega) ?_
          refine qv_top (congrArg nI hlkc) ?_
          refine qv_istore (L' := [_, _, _, _, _, _, _, _]) rfl ?_
          refine qv_iload rfl ?_
          refine qv_iload rfl ?_
          refine qv_iload rfl ?_
          refine qv_imulN rfl rfl ?_
          refine qv_isubN rfl rfl (by omega) ?_
          refine qv_istore (L' := [_, _, _, _, _, _, _, _]) rfl ?_
          refine qv_iload rfl ?_
          refine qv_iconst (v := 1) rfl ?_
          refine qv_icmp_neNf (q := 1) rfl rfl (by omega) (by omega) (by omega) (nx := 3) rfl ?_
          refine qW.blk rfl ?_
          refine qv_aload rfl ?_
          refine qv_iload rfl ?_
          refine qv_iload rfl ?_
          refine qv_iload rfl ?_
          refine qv_virt (ly_121.rcv _) sg_Laws_fallsWhenLifted rfl rfl (w_falls hP hX2 hX3 hX4 (by omega) (f := fun o => cend z kd ch D (lkc z (cw z c r o))) hlk6 hb h3 hf ?_) 
          refine qv_if_eq_t (bI_f (fun q => hb1 (e1.mp q))) (tgt := 7) rfl ?_
          refine qW.blk rfl ?_
          refine qv_iload rfl ?_
          refine qv_iconst (v := 6) rfl ?_
          refine qv_imulN (q := 6) rfl rfl ?_
          refine qv_istore (L' := [_, _, _, _, _, _, _, _]) rfl ?_
          refine qv_iload rfl ?_
          refine qv_iconst (v := 6) rfl ?_
          refine qv_idivN (q := 6) rfl rfl (by omega) (by omega) (by omega) ?_
          refine qv_top (congrArg nI (Nat.div_div_eq_div_mul c u 6)) ?_
          refine qv_istore (L' := [_, _, _, _, _, _, _, _]) rfl ?_
          refine qv_iinc (L' := [_, _, _, _, _, _, _, _]) rfl (dec_eq _) rfl ?_
          refine qv_goto (tgt := 1) rfl ?_
          exact nx hb1 _ _
      · subst hl
        rw [if_neg (by decide)] at nx
        by_cases hb1 : brk2 z kd ch D (lkc z c) r
        · rw [bI_t (ebrk.mpr ⟨r, by omega, by rw [if_neg (by decide)]; exact hb1⟩)] at hk
          refine qW.blk rfl ?_
          refine qv_iload rfl ?_
          refine qv_if_lt_f (Int32.not_lt.mpr (nI_pos' (by omega))) (nx := 2) rfl ?_
          refine qW.blk rfl ?_
          refine qv_iload rfl ?_
          refine qv_iconst (v := 6) rfl ?_
          refine qv_iremN (q := 6) rfl rfl (by omega) (by omega) (by omega) ?_
          refine qv_top (congrArg nI hlkc) ?_
          refine qv_istore (L' := [_, _, _, _, _, _, _, _]) rfl ?_
          refine qv_iload rfl ?_
          refine qv_iload rfl ?_
          refine qv_iload rfl ?_
          refine qv_imulN rfl rfl ?_
          refine qv_isubN rfl rfl (by omega) ?_
          refine qv_istore (L' := [_, _, _, _, _, _, _, _]) rfl ?_
          refine qv_iload rfl ?_
          refine qv_iconst (v := 1) rfl ?_
          refine qv_icmp_neNt (q := 1) rfl rfl (by omega) (by omega) (by omega) (tgt := 5) rfl ?_
          refine qW.blk rfl ?_
          refine qv_aload rfl ?_
          refine qv_iload rfl ?_
          refine qv_iload rfl ?_
          refine qv_iload rfl ?_
          refine qv_virt (ly_121.rcv _) sg_Laws_gainsByLying rfl rfl (w_gainsL hP hX2 (by omega) (f := fun o => cend z kd ch D (lkc z (cw z c r o))) hlk6 hb h3 hf ?_) 
          refine qv_if_eq_f (bI_ne.mpr (e2.mpr hb1)) (nx := 6) rfl ?_
          refine qW.blk rfl ?_
          refine qv_iconst (v := 1) rfl ?_
          refine qv_iret (by first | exact bI_ret | rfl) ?_
          exact hk
        · refine qW.blk rfl ?_
          refine qv_iload rfl ?_
          refine qv_if_lt_f (Int32.not_lt.mpr (nI_pos' (by omega))) (nx := 2) rfl ?_
          refine qW.blk rfl ?_
          refine qv_iload rfl ?_
          refine qv_iconst (v := 6) rfl ?_
          refine qv_iremN (q := 6) rfl rfl (by omega) (by omega) (by omega) ?_
          refine qv_top (congrArg nI hlkc) ?_
          refine qv_istore (L' := [_, _, _, _, _, _, _, _]) rfl ?_
          refine qv_iload rfl ?_
          refine qv_iload rfl ?_
          refine qv_iload rfl ?_
          refine qv_imulN rfl rfl ?_
          refine qv_isubN rfl rfl (by omega) ?_
          refine qv_istore (L' := [_, _, _, _, _, _, _, _]) rfl ?_
          refine qv_iload rfl ?_
          refine qv_iconst (v := 1) rfl ?_
          refine qv_icmp_neNt (q := 1) rfl rfl (by omega) (by omega) (by omega) (tgt := 5) rfl ?_
          refine qW.blk rfl ?_
          refine qv_aload rfl ?_
          refine qv_iload rfl ?_
          refine qv_iload rfl ?_
          refine qv_iload rfl ?_
          refine qv_virt (ly_121.rcv _) sg_Laws_gainsByLying rfl rfl (w_gainsL hP hX2 (by omega) (f := fun o => cend z kd ch D (lkc z (cw z c r o))) hlk6 hb h3 hf ?_) 
          refine qv_if_eq_t (bI_f (fun q => hb1 (e2.mp q))) (tgt := 7) rfl ?_
          refine qW.blk rfl ?_
          refine qv_iload rfl ?_
          refine qv_iconst (v := 6) rfl ?_
          refine qv_imulN (q := 6) rfl rfl ?_
          refine qv_istore (L' := [_, _, _, _, _, _, _, _]) rfl ?_
          refine qv_iload rfl ?_
          refine qv_iconst (v := 6) rfl ?_
          refine qv_idivN (q := 6) rfl rfl (by omega) (by omega) (by omega) ?_
          refine qv_top (congrArg nI (Nat.div_div_eq_div_mul c u 6)) ?_
          refine qv_istore (L' := [_, _, _, _, _, _, _, _]) rfl ?_
          refine qv_iinc (L' := [_, _, _, _, _, _, _, _]) rfl (dec_eq _) rfl ?_
          refine qv_goto (tgt := 1) rfl ?_
          exact nx hb1 _ _
  have nx := loop z (nI z - 1) none none (Nat.le_refl _) rfl (fun j h1 h2 => by omega)
  rw [Nat.sub_self, Nat.pow_zero, Nat.div_one] at nx
  refine qW.blk rfl ?_
  refine qv_iconst (v := 1) rfl ?_
  refine qv_istore (L' := [_, _, _, _, _, _, _, _]) rfl ?_
  refine qv_iload rfl ?_
  refine qv_istore (L' := [_, _, _, _, _, _, _, _]) rfl ?_
  refine qv_aload rfl ?_
  refine qv_gi ly_121 ⟨rfl, rfl, rfl⟩ (h1) ?_
  refine qv_iconst (v := 1) rfl ?_
  refine qv_isub ?_
  refine qv_istore (L' := [_, _, _, _, _, _, _, _]) rfl ?_
  refine qv_nil (nx := 1) rfl ?_
  exact nx
theorem w_firstBreach (hP : pm_np PR) (hX2 : X 2 = some (18, pm_tbf [0, 1, 2, 0, 2, 1, 1, 0, 2, 2, 0, 1, 1, 2, 0, 2, 1, 0])) (hX3 : X 3 = some (6, pm_tbf [2, 4, 0, 5, 1, 3])) (hX4 : X 4 = some (6, pm_tbf [1, 0, 3, 2, 5, 4])) {d : Nat} (hd : 6 ≤ d) {z kd ch c0 law : Nat} {w : Nat → Nat → Int32} {D : TD} (hz : z ≤ 3) (hkd : kd ≤ 1) (h0 : hm s (wF z kd ch w) 0) (h1 : qF s 121 1 = nI z) (hq2 : qF s 121 2 = nI (6 ^ z)) (hD : tdOK D) (hE : E3 D) (h2 : ∀ c, c < 6 ^ z → qE s 122 c = nI (cend z kd ch D (lkc z c))) (hlaw : law ≤ 2) (hno : ∀ c, c < c0 → ¬ brk z kd ch D law (lkc z c)) (hlast : c0 = 6 ^ z ∨ (c0 < 6 ^ z ∧ brk z kd ch D law (lkc z c0))) (hk : ∀ s', qfr 84 110 s s' → Q (some (.int (if c0 = 6 ^ z then -4 else nI c0))) s') : qP X PR d 37 [.ref 121, .int (nI law)] s Q := by
  refine qP.of (L := [_, _, _, _]) (by omega) (hP _ rfl) ms_Laws_firstBreach rfl ?_
  show qW X PR (d - 1) (some .int) cd_Laws_firstBreach 0 _ _ _ _
  have hp6 := (pow6 z (by omega)).1
  obtain ⟨hdb⟩ : Nonempty (∀ l, Decidable (brk z kd ch D law l)) := ⟨fun _ => Classical.propDecidable _⟩
  obtain ⟨hdb0⟩ : Nonempty (∀ l, Decidable (brk0 z kd ch D l)) := ⟨fun _ => Classical.propDecidable _⟩
  have one : ∀ (c : Nat) (s1 : QST) (w1 : Nat → Nat → Int32) (L3 : Option Value), c < 6 ^ z → qfr 84 110 s s1 → hm s1 (wF z kd ch w1) 0 → (brk z kd ch D law (lkc z c) → ∀ s2 (L3 : Option Value), qfr 84 110 s s2 → qW X PR (d - 1) (some .int) cd_Laws_firstBreach 6 [some (.ref (121)), some (.int (nI law)), some (.int (nI c)), L3] [] s2 Q) → (¬ brk z kd ch D law (lkc z c) → ∀ s2 w2 (L3 : Option Value), qfr 84 110 s s2 → hm s2 (wF z kd ch w2) 0 → qW X PR (d - 1) (some .int) cd_Laws_firstBreach 7 [some (.ref (121)), some (.int (nI law)), some (.int (nI c)), L3] [] s2 Q) → qW X PR (d - 1) (some .int) cd_Laws_firstBreach 1 [some (.ref (121)), some (.int (nI law)), some (.int (nI c)), L3] [] s1 Q := by
    intro c s1 w1 L3 hc F1 m1 k6 k7
    have g1 := (F1.f (c := 121) (k := 1) (by omega)).trans h1
    have g2 := (F1.f (c := 121) (k := 2) (by omega)).trans hq2
    have g3 : ∀ c, c < 6 ^ z → qE s1 122 c = nI (cend z kd ch D (lkc z c)) := fun c hc => (F1.e (by omega)).trans (h2 c hc)
    by_cases hl : law = 0
    · subst hl
      have eb : brk z kd ch D 0 (lkc z c) ↔ brk0 z kd ch D (lkc z c) := by unfold brk; rw [if_pos rfl]
      by_cases hb : brk0 z kd ch D (lkc z c)
      · refine qW.blk rfl ?_
        refine qv_iload rfl ?_
        refine qv_aload rfl ?_
        refine qv_gi ly_121 ⟨rfl, rfl, rfl⟩ (g2) ?_
        refine qv_icmp_geNf rfl rfl (by omega) (by omega) (by omega) (nx := 2) rfl ?_
        refine qW.blk rfl ?_
        refine qv_iload rfl ?_
        refine qv_if_neNf rfl (by omega) (by omega) (nx := 3) rfl ?_
        refine qW.blk rfl ?_
        refine qv_aload rfl ?_
        refine qv_iload rfl ?_
        refine qv_virt (ly_121.rcv _) sg_Laws_missesBest rfl rfl (w_missesBest hP hX2 (by omega) hz hkd hc m1 g1 hD hE (g3 c hc) (fun s2 F2 x2 => ?_)) 
        refine qv_goto (tgt := 5) rfl ?_
        refine qW.blk rfl ?_
        refine qv_istore (L' := [_, _, _, _]) rfl ?_
        refine qv_iload rfl ?_
        refine qv_if_eq_f (bI_ne.mpr (hb)) (nx := 6) rfl ?_
        exact k6 (eb.mpr hb) s2 _ (F1.trans F2)
      · refine qW.blk rfl ?_
        refine qv_iload rfl ?_
        refine qv_aload rfl ?_
        refine qv_gi ly_121 ⟨rfl, rfl, rfl⟩ (g2) ?_
        refine qv_icmp_geNf rfl rfl (by omega) (by omega) (by omega) (nx := 2) rfl ?_
        refine qW.blk rfl ?_
        refine qv_iload rfl ?_
        refine qv_if_neNf rfl (by omega) (by omega) (nx := 3) rfl ?_
        refine qW.blk rfl ?_
        refine qv_aload rfl ?_
        refine qv_iload rfl ?_
        refine qv_virt (ly_121.rcv _) sg_Laws_missesBest rfl rfl (w_missesBest hP hX2 (by omega) hz hkd hc m1 g1 hD hE (g3 c hc) (fun s2 F2 x2 => ?_)) 
        refine qv_goto (tgt := 5) rfl ?_
        refine qW.blk rfl ?_
        refine qv_istore (L' := [_, _, _, _]) rfl ?_
        refine qv_iload rfl ?_
        refine qv_if_eq_t (bI_f (hb)) (tgt := 7) rfl ?_
        obtain ⟨w2, x3⟩ := x2
        exact k7 (fun q => hb (eb.mp q)) s2 w2 _ (F1.trans F2) x3
    · by_cases hb : brk z kd ch D law (lkc z c)
      · refine qW.blk rfl ?_
        refine qv_iload rfl ?_
        refine qv_aload rfl ?_
        refine qv_gi ly_121 ⟨rfl, rfl, rfl⟩ (g2) ?_
        refine qv_icmp_geNf rfl rfl (by omega) (by omega) (by omega) (nx := 2) rfl ?_
        refine qW.blk rfl ?_
        refine qv_iload rfl ?_
        refine qv_if_neNt rfl (by omega) (by omega) (tgt := 4) rfl ?_
        refine qW.blk rfl ?_
        refine qv_aload rfl ?_
        refine qv_iload rfl ?_
        refine qv_iload rfl ?_
        refine qv_virt (ly_121.rcv _) sg_Laws_isBrokenByOne rfl rfl (w_brokenByOne hP hX2 hX3 hX4 (by omega) hz hkd hc g1 hD hE g3 (by omega) ?_) 
        refine qv_nil (nx := 5) rfl ?_
        refine qW.blk rfl ?_
        refine qv_istore (L' := [_, _, _, _]) rfl ?_
        refine qv_iload rfl ?_
        refine qv_if_eq_f (bI_ne.mpr (hb)) (nx := 6) rfl ?_
        exact k6 hb s1 _ F1
      · refine qW.blk rfl ?_
        refine qv_iload rfl ?_
        refine qv_aload rfl ?_
        refine qv_gi ly_121 ⟨rfl, rfl, rfl⟩ (g2) ?_
        refine qv_icmp_geNf rfl rfl (by omega) (by omega) (by omega) (nx := 2) rfl ?_
        refine qW.blk rfl ?_
        refine qv_iload rfl ?_
        refine qv_if_neNt rfl (by omega) (by omega) (tgt := 4) rfl ?_
        refine qW.blk rfl ?_
        refine qv_aload rfl ?_
        refine qv_iload rfl ?_
        refine qv_iload rfl ?_
        refine qv_virt (ly_121.rcv _) sg_Laws_isBrokenByOne rfl rfl (w_brokenByOne hP hX2 hX3 hX4 (by omega) hz hkd hc g1 hD hE g3 (by omega) ?_) 
        refine qv_nil (nx := 5) rfl ?_
        refine qW.blk rfl ?_
        refine qv_istore (L' := [_, _, _, _]) rfl ?_
        refine qv_iload rfl ?_
        refine qv_if_eq_t (bI_f (hb)) (tgt := 7) rfl ?_
        exact k7 hb s1 w1 _ F1 m1
  have loop : ∀ (k c : Nat) (s1 : QST) (w1 : Nat → Nat → Int32) (L3 : Option Value), c + k = c0 → qfr 84 110 s s1 → hm s1 (wF z kd ch w1) 0 → qW X PR (d - 1) (some .int) cd_Laws_firstBreach 1 [some (.ref (121)), some (.int (nI law)), some (.int (nI c)), L3] [] s1 Q := by
    intro k
    induction k with
    | zero =>
      intro c s1 w1 L3 hc F1 m1
      have e : c = c0 := by omega
      subst e
      rcases hlast with h | ⟨g1, g2⟩
      · rw [if_pos h] at hk
        subst h
        refine qW.blk rfl ?_
        refine qv_iload rfl ?_
        refine qv_aload rfl ?_
        refine qv_gi ly_121 ⟨rfl, rfl, rfl⟩ ((F1.f (by omega)).trans hq2) ?_
        refine qv_icmp_geNt rfl rfl (by omega) (by omega) (by omega) (tgt := 8) rfl ?_
        refine qW.blk rfl ?_
        refine qv_iconst (v := (-4)) rfl ?_
        refine qv_iret (rfl) ?_
        exact hk s1 F1
      · rw [if_neg (by omega)] at hk
        refine one c s1 w1 L3 g1 F1 m1 (fun _ s2 L3 F2 => ?_) (fun q => absurd g2 q)
        refine qW.blk rfl ?_
        refine qv_iload rfl ?_
        refine qv_iret (rfl) ?_
        exact hk s2 F2
    | succ k ih =>
      intro c s1 w1 L3 hc F1 m1
      have hlt : c < 6 ^ z := by omega
      refine one c s1 w1 L3 hlt F1 m1 (fun q => absurd q (hno c (by omega))) (fun _ s2 w2 L3 F2 m2 => ?_)
      refine qW.blk rfl ?_
      refine qv_iinc (L' := [_, _, _, _]) rfl (nI_succ _).symm rfl ?_
      refine qv_goto (tgt := 1) rfl ?_
      exact ih (c + 1) s2 w2 _ (by omega) F2 m2
  refine qW.blk rfl ?_
  refine qv_iconst (v := 0) rfl ?_
  refine qv_istore (L' := [_, _, _, _]) rfl ?_
  refine qv_nil (nx := 1) rfl ?_
  exact loop c0 0 s w _ (by omega) (qfr.rf s) h0
end
