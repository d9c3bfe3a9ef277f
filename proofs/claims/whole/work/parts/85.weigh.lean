/-! who beats whom: the class weighs its ORDERS -/
theorem cmp81 : ∀ a, a < 82 → ∀ b, b < 82 → ((0 < nI a - nI b ↔ b < a) ∧ (nI a - nI b = 0 ↔ a = b)) := by decide +kernel
theorem mgn_ab {w : Nat → Nat → Int32} {v : Nat → Int32} {x y : Nat} : ∀ n, (∀ m, m < n → ∃ k, k ≤ 9 ∧ v m = nI k) → ∃ a b, a + b ≤ 9 * n ∧ mgn w v x y n = nI a - nI b ∧ mgn w v y x n = nI b - nI a := by
  intro n
  induction n with
  | zero => exact fun _ => ⟨0, 0, by decide, rfl, rfl⟩
  | succ n ih =>
    intro h
    obtain ⟨a, b, h1, h2, h3⟩ := ih (fun m hm => h m (by omega))
    obtain ⟨k, hk, hv⟩ := h n (by omega)
    have p1 : ∀ A B K : Int32, A - B + K = (A + K) - B := fun A B K => by rw [Int32.sub_eq_add_neg, Int32.sub_eq_add_neg, Int32.add_assoc, Int32.add_comm (-B) K, ← Int32.add_assoc]
    have p2 : ∀ A B K : Int32, A - B + -K = A - (B + K) := fun A B K => by rw [Int32.sub_eq_add_neg, Int32.sub_eq_add_neg, Int32.neg_add, Int32.sub_eq_add_neg, Int32.add_assoc]
    unfold mgn
    rw [h2, h3, hv]
    by_cases c1 : w n x < w n y
    · have c2 : ¬ w n y < w n x := fun z => Int32.lt_irrefl (Int32.lt_trans c1 z)
      rw [if_pos c1, if_neg c2, if_pos c1, p2, p1, nI_add]
      exact ⟨a + k, b, by omega, rfl, rfl⟩
    · by_cases c2 : w n y < w n x
      · rw [if_neg c1, if_pos c2, if_pos c2, p2, p1, nI_add]
        exact ⟨a, b + k, by omega, rfl, rfl⟩
      · rw [if_neg c1, if_neg c2, if_neg c2, if_neg c1, Int32.add_zero, Int32.add_zero]
        exact ⟨a, b, by omega, rfl, rfl⟩
/-- of two ENDS one beats the other -/
theorem gbts_tot {W : VW} {p : Nat} (v : vok W p) {x y : Nat} (h : x ≠ y) : gbts W x y ↔ ¬ gbts W y x := by
  obtain ⟨a, b, h1, h2, h3⟩ := mgn_ab (w := gW W) (v := gV W) (x := x) (y := y) (gN W) (fun m hm => (v.2.2 m hm).2.1)
  have hN := v.1
  have c1 := cmp81 a (by omega) b (by omega)
  have c2 := cmp81 b (by omega) a (by omega)
  show sbt (mgn (gW W) (gV W) x y (gN W)) (gC W) x y ↔ ¬ sbt (mgn (gW W) (gV W) y x (gN W)) (gC W) y x
  rw [h2, h3]
  unfold sbt
  rw [c1.1, c1.2, c2.1, c2.2]
  by_cases hc : gC W = 0
  · constructor
    · rintro ⟨-, q⟩ ⟨-, r⟩
      rcases q with q | ⟨q, q2 | q2⟩ <;> rcases r with r | ⟨r, r2 | r2⟩ <;> first | omega | exact q2.1 hc | exact r2.1 hc
    · intro q
      refine ⟨h, ?_⟩
      rcases Nat.lt_trichotomy a b with t | t | t
      · exact absurd ⟨Ne.symm h, Or.inl t⟩ q
      · refine Or.inr ⟨t, Or.inl ⟨hc, ?_⟩⟩
        rcases Nat.lt_trichotomy x y with u | u | u
        · exact u
        · exact absurd u h
        · exact absurd ⟨Ne.symm h, Or.inr ⟨t.symm, Or.inl ⟨hc, u⟩⟩⟩ q
      · exact Or.inl t
  · constructor
    · rintro ⟨-, q⟩ ⟨-, r⟩
      rcases q with q | ⟨q, q2 | q2⟩ <;> rcases r with r | ⟨r, r2 | r2⟩ <;> first | omega | exact hc q2.1 | exact hc r2.1
    · intro q
      refine ⟨h, ?_⟩
      rcases Nat.lt_trichotomy a b with t | t | t
      · exact absurd ⟨Ne.symm h, Or.inl t⟩ q
      · refine Or.inr ⟨t, Or.inr ⟨hc, ?_⟩⟩
        rcases Nat.lt_trichotomy x y with u | u | u
        · exact absurd ⟨Ne.symm h, Or.inr ⟨t.symm, Or.inr ⟨hc, u⟩⟩⟩ q
        · exact absurd u h
        · exact u
      · exact Or.inl t
theorem btn_ext {a b : Nat} (ha : a < 128) (hb : b < 128) (h : ∀ i, i < 7 → (btn a i ↔ btn b i)) : a = b := by
  apply Nat.eq_of_testBit_eq
  intro i
  by_cases hi : i < 7
  · have := h i hi
    rw [btn_tb, btn_tb] at this
    cases e1 : a.testBit i <;> cases e2 : b.testBit i <;> rw [e1, e2] at this <;> first | rfl | simp at this
  · have h2 : (128 : Nat) ≤ 2 ^ i := Nat.le_trans (by decide : (128 : Nat) ≤ 2 ^ 7) (Nat.pow_le_pow_right (by omega) (by omega))
    rw [Nat.testBit_lt_two_pow (Nat.lt_of_lt_of_le ha h2), Nat.testBit_lt_two_pow (Nat.lt_of_lt_of_le hb h2)]
/-- whom an END beats, of those below n -/
def ov (W : VW) (n x : Nat) : Nat := bsN (fun y => gbts W x y) n
theorem ov_bit {W : VW} {n x y : Nat} (hn : n < 8) (hy : y < 8) : btn (ov W n x) y ↔ (y < n ∧ gbts W x y) := bsN_bit hy n hn
theorem ov_lt {W : VW} {n x : Nat} (hn : n < 8) : ov W n x < 128 := Nat.lt_of_lt_of_le (bsN_lt n) (two_lt hn)
theorem gbts_ne {W : VW} {x y : Nat} (h : gbts W x y) : x ≠ y := h.1
theorem shl7 : ∀ u, u < 7 → (1 <<< (nI u &&& 31) : Int32) = nI (2 ^ u) ∧ 2 ^ u < 128 := by decide +kernel
theorem or7 {u x : Nat} (hu : u < 7) (hx : x < 128) : nI x ||| (1 <<< (nI u &&& 31)) = nI (x ||| 2 ^ u) ∧ x ||| 2 ^ u < 128 := by
  obtain ⟨h1, h2⟩ := shl7 u hu
  rw [h1]
  exact ⟨or_N (by omega) (by omega), Nat.or_lt_two_pow (n := 7) hx h2⟩
theorem all7 : ∀ n, n < 8 → (1 <<< (nI n &&& 31) : Int32) - 1 = nI (2 ^ n - 1) := by decide +kernel
/-- the class's ORDERS are weighed by a view -/
def wgh (s : QST) (W : VW) (n : Nat) : Prop := qF s 111 0 = nI n ∧ qF s 111 1 = nI (2 ^ n - 1) ∧ ∀ x, x < n → qE s 112 x = nI (ov W n x)
section
variable {X : pm_X} {PR : pm_P} {s : QST} {Q : QPost}
theorem w_weigh (hP : pm_np PR) {d : Nat} (hd : 4 ≤ d) {W : VW} {p n : Nat} (hm1 : hm s W p) (v : vok W p) (hn1 : 1 ≤ n) (hn : n ≤ 7) (hk : ∀ s', qfr 111 112 s s' → wgh s' W n → Q none s') : qP X PR d 50 [.ref 111, .ref 74, .int (nI n)] s Q := by
  refine qP.of (L := [_, _, _, _, _, _, _]) (by omega) (hP _ rfl) ms_Orders_weigh rfl ?_
  show qW X PR (d - 1) (none) cd_Orders_weigh 0 _ _ _ _
  have loop : ∀ (c x : Nat) (s1 : QST) (L4 L5 L6 : Option Value), x + c = n → qfr 111 112 s s1 → qF s1 111 0 = nI n → qF s1 111 1 = nI (2 ^ n - 1) → (∀ w, w < 7 → ∃ b, b < 128 ∧ qE s1 112 w = nI b ∧ ∀ l, l < 7 → (btn b l ↔ (l < n ∧ w < n ∧ (w < x ∨ l < x) ∧ gbts W w l))) → qW X PR (d - 1) (none) cd_Orders_weigh 1 [some (.ref (111)), some (.ref (74)), some (.int (nI n)), some (.int (nI x)), L4, L5, L6] [] s1 Q := by
    intro c
    induction c with
    | zero =>
      intro x s1 L4 L5 L6 hx F1 h0 h1 h2
      have e : x = n := by omega
      subst e
      refine qW.blk rfl ?_
      refine qv_iload rfl ?_
      refine qv_aload rfl ?_
      refine qv_gi ly_111 ⟨rfl, rfl, rfl⟩ (h0) ?_
      refine qv_icmp_geNt rfl rfl (by omega) (by omega) (by omega) (tgt := 6) rfl ?_
      refine qW.blk rfl ?_
      refine qv_ret rfl ?_
      refine hk s1 F1 ⟨h0, h1, fun w hw => ?_⟩
      obtain ⟨b, b1, b2, b3⟩ := h2 w (by omega)
      rw [b2, btn_ext b1 (ov_lt (W := W) (n := x) (x := w) (by omega)) (fun i hi => by
        rw [b3 i hi, ov_bit (by omega) (by omega)]
        exact ⟨fun z => ⟨z.1, z.2.2.2⟩, fun z => ⟨z.1, hw, Or.inl hw, z.2⟩⟩)]
    | succ c ih =>
      intro x s1 L4 L5 L6 hx F1 h0 h1 h2
      have inner : ∀ (c2 y : Nat) (s1 : QST) (L5 L6 : Option Value), y + c2 = n → x < y → qfr 111 112 s s1 → qF s1 111 0 = nI n → qF s1 111 1 = nI (2 ^ n - 1) → (∀ w, w < 7 → ∃ b, b < 128 ∧ qE s1 112 w = nI b ∧ ∀ l, l < 7 → (btn b l ↔ (l < n ∧ w < n ∧ (w < x ∨ l < x ∨ (w = x ∧ l < y) ∨ (l = x ∧ w < y)) ∧ gbts W w l))) → qW X PR (d - 1) (none) cd_Orders_weigh 3 [some (.ref (111)), some (.ref (74)), some (.int (nI n)), some (.int (nI x)), some (.int (nI y)), L5, L6] [] s1 Q := by
        intro c2
        induction c2 with
        | zero =>
          intro y s1 L5 L6 hy hxy F1 h0 h1 h2
          have e : y = n := by omega
          subst e
          refine qW.blk rfl ?_
          refine qv_iload rfl ?_
          refine qv_aload rfl ?_
          refine qv_gi ly_111 ⟨rfl, rfl, rfl⟩ (h0) ?_
          refine qv_icmp_geNt rfl rfl (by omega) (by omega) (by omega) (tgt := 5) rfl ?_
          refine qW.blk rfl ?_
          refine qv_iinc (L' := [_, _, _, _, _, _, _]) rfl (nI_succ _).symm rfl ?_
          refine qv_goto (tgt := 1) rfl ?_
          refine ih (x + 1) s1 _ _ _ (by omega) F1 h0 h1 (fun w hw => ?_)
          obtain ⟨b, b1, b2, b3⟩ := h2 w hw
          refine ⟨b, b1, b2, fun l hl => ?_⟩
          rw [b3 l hl]
          constructor
          · rintro ⟨q1, q2, q3, q4⟩; exact ⟨q1, q2, by omega, q4⟩
          · rintro ⟨q1, q2, q3, q4⟩; exact ⟨q1, q2, by omega, q4⟩
        | succ c2 ih2 =>
          intro y s1 L5 L6 hy hxy F1 h0 h1 h2
          have m2 : hm s1 W p := hm1.fr F1 (by omega) v.1
          obtain ⟨a, l, ha, hl, hal, hgb, hst⟩ : ∃ a l, a < n ∧ l < n ∧ ((a = x ∧ l = y) ∨ (a = y ∧ l = x)) ∧ gbts W a l ∧ gstd W x y = a := by
            unfold gstd
            by_cases hb : gbts W y x
            · exact ⟨y, x, by omega, by omega, Or.inr ⟨rfl, rfl⟩, hb, if_pos hb⟩
            · exact ⟨x, y, by omega, by omega, Or.inl ⟨rfl, rfl⟩, (gbts_tot v (by omega)).mpr hb, if_neg hb⟩
          obtain ⟨b, b1, b2, b3⟩ := h2 a (by omega)
          obtain ⟨o1, o2⟩ := or7 (u := l) (x := b) (by omega) b1
          have hst2 : gstd (hvw s1 (gN W)) x y = a := ((m2.ve v).std (show x < 7 by omega) (show y < 7 by omega)).trans hst
          have exl : x + y - a = l := by omega
          refine qW.blk rfl ?_
          refine qv_iload rfl ?_
          refine qv_aload rfl ?_
          refine qv_gi ly_111 ⟨rfl, rfl, rfl⟩ (h0) ?_
          refine qv_icmp_geNf rfl rfl (by omega) (by omega) (by omega) (nx := 4) rfl ?_
          refine qW.blk rfl ?_
          refine qv_aload rfl ?_
          refine qv_iload rfl ?_
          refine qv_iload rfl ?_
          refine qv_virtE (ly_74.rcv _) sg_Hall_better rfl rfl (r_better hP (by omega) (m2.ok v) (by omega) (by omega)) ?_
          refine qv_top (congrArg nI hst2) ?_
          refine qv_istore (L' := [_, _, _, _, _, _, _]) rfl ?_
          refine qv_iload rfl ?_
          refine qv_iload rfl ?_
          refine qv_iaddN rfl rfl ?_
          refine qv_iload rfl ?_
          refine qv_isubN rfl rfl (by omega) ?_
          refine qv_top (congrArg nI exl) ?_
          refine qv_istore (L' := [_, _, _, _, _, _, _]) rfl ?_
          refine qv_aload rfl ?_
          refine qv_gr ly_111 ⟨rfl, rfl, rfl⟩ (by omega) ?_
          refine qv_iload rfl ?_
          refine qv_dup2 rfl rfl ?_
          refine qv_ia ly_112 rfl (by omega) (by decide) (b2) ?_
          refine qv_iconst (v := 1) rfl ?_
          refine qv_iload rfl ?_
          refine qv_ishl ?_
          refine qv_ior ?_
          refine qv_top (o1) ?_
          refine qv_is ly_112 rfl (by omega) (by decide) ?_
          refine qv_iinc (L' := [_, _, _, _, _, _, _]) rfl (nI_succ _).symm rfl ?_
          refine qv_goto (tgt := 3) rfl ?_
          refine ih2 (y + 1) _ _ _ (by omega) (by omega) (F1.trans ((qfr.rf s1).uE (by omega))) h0 h1 (fun w hw => ?_)
          by_cases ew : w = a
          · subst ew
            refine ⟨b ||| 2 ^ l, o2, qE_uEs, fun l' hl' => ?_⟩
            rw [btn_or, b3 l' hl']
            constructor
            · rintro (⟨q1, q2, q3, q4⟩ | q)
              · exact ⟨q1, q2, by omega, q4⟩
              · subst q; exact ⟨hl, ha, by omega, hgb⟩
            · rintro ⟨q1, q2, q3, q4⟩
              by_cases el : l = l'
              · exact Or.inr el
              · exact Or.inl ⟨q1, q2, by omega, q4⟩
          · obtain ⟨b', b1', b2', b3'⟩ := h2 w hw
            refine ⟨b', b1', by rw [qE_uEk ew]; exact b2', fun l' hl' => ?_⟩
            rw [b3' l' hl']
            constructor
            · rintro ⟨q1, q2, q3, q4⟩; exact ⟨q1, q2, by omega, q4⟩
            · rintro ⟨q1, q2, q3, q4⟩
              refine ⟨q1, q2, ?_, q4⟩
              by_cases hwl : (w = x ∧ l' = y) ∨ (w = y ∧ l' = x)
              · exfalso
                have hne := gbts_ne q4
                have : w = l ∧ l' = a := by omega
                rw [this.1, this.2] at q4
                exact (gbts_tot v (Ne.symm (gbts_ne hgb))).mp q4 hgb
              · omega
      refine qW.blk rfl ?_
      refine qv_iload rfl ?_
      refine qv_aload rfl ?_
      refine qv_gi ly_111 ⟨rfl, rfl, rfl⟩ (h0) ?_
      refine qv_icmp_geNf rfl rfl (by omega) (by omega) (by omega) (nx := 2) rfl ?_
      refine qW.blk rfl ?_
      refine qv_iload rfl ?_
      refine qv_iconst (v := 1) rfl ?_
      refine qv_iaddN (q := 1) rfl rfl ?_
      refine qv_istore (L' := [_, _, _, _, _, _, _]) rfl ?_
      refine qv_nil (nx := 3) rfl ?_
      refine inner (n - (x + 1)) (x + 1) s1 _ _ (by omega) (by omega) F1 h0 h1 (fun w hw => ?_)
      obtain ⟨b, b1, b2, b3⟩ := h2 w hw
      refine ⟨b, b1, b2, fun l hl => ?_⟩
      rw [b3 l hl]
      constructor
      · rintro ⟨q1, q2, q3, q4⟩; exact ⟨q1, q2, by omega, q4⟩
      · rintro ⟨q1, q2, q3, q4⟩
        have := gbts_ne q4
        exact ⟨q1, q2, by omega, q4⟩
  refine qW.blk rfl ?_
  refine qv_aload rfl ?_
  refine qv_iload rfl ?_
  refine qv_pi ly_111 ⟨rfl, rfl, rfl⟩ (rfl) ?_
  refine qv_aload rfl ?_
  refine qv_iconst (v := 1) rfl ?_
  refine qv_aload rfl ?_
  refine qv_gi ly_111 ⟨rfl, rfl, rfl⟩ (qF_uFs) ?_
  refine qv_ishl ?_
  refine qv_iconst (v := 1) rfl ?_
  refine qv_isub ?_
  refine qv_top (all7 n (by omega)) ?_
  refine qv_pi ly_111 ⟨rfl, rfl, rfl⟩ (rfl) ?_
  refine qv_aload rfl ?_
  refine qv_gr ly_111 ⟨rfl, rfl, rfl⟩ (by omega) ?_
  refine qv_iconst (v := 0) rfl ?_
  refine qv_static sg_Arrays_fill rfl (w_fill hP (by omega) ly_112 (by decide) 0 ?_) 
  refine qv_iconst (v := 0) rfl ?_
  refine qv_istore (L' := [_, _, _, _, _, _, _]) rfl ?_
  refine qv_nil (nx := 1) rfl ?_
  refine loop n 0 _ _ _ _ (by omega) ((((qfr.rf s).uF (by omega)).uF (by omega)).uA (by omega)) (by rw [qF_uA, qF_uFk (by omega), qF_uFs]) (by rw [qF_uA, qF_uFs]) (fun w hw => ⟨0, by decide, ?_, fun l hl => ?_⟩)
  · rw [qE_uAs, if_pos (by omega)]; rfl
  · exact ⟨fun z => absurd z (btn0 l), fun z => absurd z.2.2.1 (by omega)⟩
theorem w_weighOrders (hP : pm_np PR) {d : Nat} (hd : 6 ≤ d) {C : Nat → Nat} (hc : cC s 9 C) (hC : CB C) (hk : ∀ s', qfr 74 112 s s' → wgh s' (cvw C) (C 0) → Q none s') : qP X PR d 134 [.ref 8] s Q := by
  have hM := hC.2.2.2.1
  refine qP.of (L := [_]) (by omega) (hP _ rfl) ms_Desk_weighOrders rfl ?_
  show qW X PR (d - 1) (none) cd_Desk_weighOrders 0 _ _ _ _
  refine qW.blk rfl ?_
  refine qv_aload rfl ?_
  refine qv_gr ly_8 ⟨rfl, rfl, rfl⟩ (by omega) ?_
  refine qv_aload rfl ?_
  refine qv_gr ly_8 ⟨rfl, rfl, rfl⟩ (by omega) ?_
  refine qv_virt (ly_74.rcv _) sg_Hall_seat rfl rfl (w_Hall_seat hP (by omega) hc hC (fun s1 p F1 m1 v1 => ?_)) 
  refine qv_aload rfl ?_
  refine qv_gr ly_8 ⟨rfl, rfl, rfl⟩ (by omega) ?_
  refine qv_aload rfl ?_
  refine qv_gr ly_8 ⟨rfl, rfl, rfl⟩ (by omega) ?_
  refine qv_aload rfl ?_
  refine qv_gr ly_8 ⟨rfl, rfl, rfl⟩ (by omega) ?_
  refine qv_gi ly_9 ⟨rfl, rfl, rfl⟩ ((F1.f (by omega)).trans hc.1) ?_
  refine qv_virt (ly_111.rcv _) sg_Orders_weigh rfl rfl (w_weigh hP (by omega) m1 v1 hC.1 hC.2.1 (fun s2 F2 g2 => ?_)) 
  refine qv_ret rfl ?_
  exact hk s2 ((F1.mono (by omega) (by omega)).trans (F2.mono (by omega) (by omega))) g2
end
