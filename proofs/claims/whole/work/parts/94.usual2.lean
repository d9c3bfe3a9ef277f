/-! usual is alike -/
def clr (L e : Nat) : Nat := if btn L e then L - 2 ^ e else L
theorem clr_ok : ∀ e, e < 7 → ∀ L, L < 128 → nI L &&& ((1 <<< (nI e &&& 31)) ^^^ (-1)) = nI (clr L e) ∧ clr L e < 128 := by decide +kernel
theorem clr_bit0 : ∀ e, e < 7 → ∀ L, L < 128 → (List.range 7).all (fun y => decide (btn (clr L e) y) == decide (btn L y ∧ ¬ y = e)) = true := by decide +kernel
theorem clr_bit (e : Nat) (he : e < 7) (L : Nat) (hL : L < 128) (y : Nat) (hy : y < 7) : btn (clr L e) y ↔ (btn L y ∧ ¬ y = e) := by
  have := List.all_eq_true.mp (clr_bit0 e he L hL) y (List.mem_range.mpr hy)
  have t := beq_iff_eq.mp this
  rw [decide_eq_decide] at t
  exact t
theorem lc_gt (a b : Int32) : (0 < lg_cmp a.toInt64 b.toInt64) ↔ b < a := by
  rw [lg_cmp_gt, Int64.lt_iff_toInt_lt, Int32.toInt_toInt64, Int32.toInt_toInt64, Int32.lt_iff_toInt_lt]
theorem lc_eq (a b : Int32) : (lg_cmp a.toInt64 b.toInt64 = 0) ↔ a = b := by
  rw [lg_cmp_eq, ← Int64.toInt_inj, Int32.toInt_toInt64, Int32.toInt_toInt64, Int32.toInt_inj]
section
variable {X : pm_X} {PR : pm_P} {s : QST} {Q : QPost}
theorem w_greatestOf (hP : pm_np PR) {d : Nat} (hd : 1 ≤ d) {n L B e : Nat} {f : Nat → Int32} (hB : qLY B (0, 120, [])) (hf : ∀ j, j < 120 → qE s B j = f j) (hn : n ≤ 7) (hL : L < 128) (he : e < n) (heL : btn L e) (hmin : ∀ y, y < n → btn L y → y ≠ e → bt f e y) (hk : Q (some (.int (nI e))) s) : qP X PR d 71 [.int (nI L), .ref B, .int (nI n)] s Q := by
  refine qP.of (L := [_, _, _, _, _, _]) (by omega) (hP _ rfl) ms_Orders_greatestOf rfl ?_
  show qW X PR (d - 1) (some .int) cd_Orders_greatestOf 0 _ _ _ _
  have loop : ∀ (c x fo an : Nat), x + c = n → fo < 7 → ((an = 0 ∧ ∀ y, y < x → ¬ btn L y) ∨ (an = 1 ∧ fo < x ∧ btn L fo ∧ ∀ y, y < x → btn L y → y ≠ fo → bt f fo y)) → qW X PR (d - 1) (some .int) cd_Orders_greatestOf 1 [some (.int (nI L)), some (.ref (B)), some (.int (nI n)), some (.int (nI fo)), some (.int (nI an)), some (.int (nI x))] [] s Q := by
    intro c
    induction c with
    | zero =>
      intro x fo an hx hfo h
      have e1 : x = n := by omega
      subst e1
      refine qW.blk rfl ?_
      refine qv_iload rfl ?_
      refine qv_iload rfl ?_
      refine qv_icmp_geNt rfl rfl (by omega) (by omega) (by omega) (tgt := 7) rfl ?_
      refine qW.blk rfl ?_
      refine qv_iload rfl ?_
      refine qv_iret (rfl) ?_
      rcases h with ⟨-, h⟩ | ⟨-, h1, h2, h3⟩
      · exact absurd heL (h e he)
      · by_cases q : fo = e
        · rw [q]; exact hk
        · exact absurd (h3 e he heL (fun z => q z.symm)) (bt_asy (hmin fo h1 h2 q))
    | succ c ih =>
      intro x fo an hx hfo h
      by_cases hb : btn L x
      · rcases h with ⟨h0, h⟩ | ⟨h0, h1, h2, h3⟩
        · subst h0
          refine qW.blk rfl ?_
          refine qv_iload rfl ?_
          refine qv_iload rfl ?_
          refine qv_icmp_geNf rfl rfl (by omega) (by omega) (by omega) (nx := 2) rfl ?_
          refine qW.blk rfl ?_
          refine qv_iload rfl ?_
          refine qv_iload rfl ?_
          refine qv_ishr ?_
          refine qv_iconst (v := 1) rfl ?_
          refine qv_iand ?_
          refine qv_iconst (v := 1) rfl ?_
          refine qv_icmp_ne_f (fun q => q ((bit_is (by omega) (by omega)).mpr hb)) (nx := 3) rfl ?_
          refine qW.blk rfl ?_
          refine qv_iload rfl ?_
          refine qv_if_eq_t (rfl) (tgt := 5) rfl ?_
          refine qW.blk rfl ?_
          refine qv_iload rfl ?_
          refine qv_istore (L' := [_, _, _, _, _, _]) rfl ?_
          refine qv_iconst (v := 1) rfl ?_
          refine qv_istore (L' := [_, _, _, _, _, _]) rfl ?_
          refine qv_nil (nx := 6) rfl ?_
          refine qW.blk rfl ?_
          refine qv_iinc (L' := [_, _, _, _, _, _]) rfl (nI_succ _).symm rfl ?_
          refine qv_goto (tgt := 1) rfl ?_
          refine ih (x + 1) x 1 (by omega) (by omega) (Or.inr ⟨rfl, by omega, hb, fun y hy hyb hne => ?_⟩)
          exact absurd hyb (h y (by omega))
        · subst h0
          by_cases hlt : f fo < f x
          · refine qW.blk rfl ?_
            refine qv_iload rfl ?_
            refine qv_iload rfl ?_
            refine qv_icmp_geNf rfl rfl (by omega) (by omega) (by omega) (nx := 2) rfl ?_
            refine qW.blk rfl ?_
            refine qv_iload rfl ?_
            refine qv_iload rfl ?_
            refine qv_ishr ?_
            refine qv_iconst (v := 1) rfl ?_
            refine qv_iand ?_
            refine qv_iconst (v := 1) rfl ?_
            refine qv_icmp_ne_f (fun q => q ((bit_is (by omega) (by omega)).mpr hb)) (nx := 3) rfl ?_
            refine qW.blk rfl ?_
            refine qv_iload rfl ?_
            refine qv_if_eq_f (by decide) (nx := 4) rfl ?_
            refine qW.blk rfl ?_
            refine qv_aload rfl ?_
            refine qv_iload rfl ?_
            refine qv_ia hB rfl (by omega) (by decide) (hf x (by omega)) ?_
            refine qv_aload rfl ?_
            refine qv_iload rfl ?_
            refine qv_ia hB rfl (by omega) (by decide) (hf fo (by omega)) ?_
            refine qv_icmp_le_f (Int32.not_le.mpr hlt) (nx := 5) rfl ?_
            refine qW.blk rfl ?_
            refine qv_iload rfl ?_
            refine qv_istore (L' := [_, _, _, _, _, _]) rfl ?_
            refine qv_iconst (v := 1) rfl ?_
            refine qv_istore (L' := [_, _, _, _, _, _]) rfl ?_
            refine qv_nil (nx := 6) rfl ?_
            refine qW.blk rfl ?_
            refine qv_iinc (L' := [_, _, _, _, _, _]) rfl (nI_succ _).symm rfl ?_
            refine qv_goto (tgt := 1) rfl ?_
            refine ih (x + 1) x 1 (by omega) (by omega) (Or.inr ⟨rfl, by omega, hb, fun y hy hyb hne => bt_new hlt ?_⟩)
            by_cases q : y = fo
            · exact Or.inl q
            · exact Or.inr (h3 y (by omega) hyb q)
          · refine qW.blk rfl ?_
            refine qv_iload rfl ?_
            refine qv_iload rfl ?_
            refine qv_icmp_geNf rfl rfl (by omega) (by omega) (by omega) (nx := 2) rfl ?_
            refine qW.blk rfl ?_
            refine qv_iload rfl ?_
            refine qv_iload rfl ?_
            refine qv_ishr ?_
            refine qv_iconst (v := 1) rfl ?_
            refine qv_iand ?_
            refine qv_iconst (v := 1) rfl ?_
            refine qv_icmp_ne_f (fun q => q ((bit_is (by omega) (by omega)).mpr hb)) (nx := 3) rfl ?_
            refine qW.blk rfl ?_
            refine qv_iload rfl ?_
            refine qv_if_eq_f (by decide) (nx := 4) rfl ?_
            refine qW.blk rfl ?_
            refine qv_aload rfl ?_
            refine qv_iload rfl ?_
            refine qv_ia hB rfl (by omega) (by decide) (hf x (by omega)) ?_
            refine qv_aload rfl ?_
            refine qv_iload rfl ?_
            refine qv_ia hB rfl (by omega) (by decide) (hf fo (by omega)) ?_
            refine qv_icmp_le_t (Int32.not_lt.mp hlt) (tgt := 6) rfl ?_
            refine qW.blk rfl ?_
            refine qv_iinc (L' := [_, _, _, _, _, _]) rfl (nI_succ _).symm rfl ?_
            refine qv_goto (tgt := 1) rfl ?_
            refine ih (x + 1) fo 1 (by omega) (by omega) (Or.inr ⟨rfl, by omega, h2, fun y hy hyb hne => ?_⟩)
            by_cases q : y = x
            · subst q; exact bt_old hlt h1
            · exact h3 y (by omega) hyb hne
      · refine qW.blk rfl ?_
        refine qv_iload rfl ?_
        refine qv_iload rfl ?_
        refine qv_icmp_geNf rfl rfl (by omega) (by omega) (by omega) (nx := 2) rfl ?_
        refine qW.blk rfl ?_
        refine qv_iload rfl ?_
        refine qv_iload rfl ?_
        refine qv_ishr ?_
        refine qv_iconst (v := 1) rfl ?_
        refine qv_iand ?_
        refine qv_iconst (v := 1) rfl ?_
        refine qv_icmp_ne_t (fun q => hb ((bit_is (by omega) (by omega)).mp q)) (tgt := 6) rfl ?_
        refine qW.blk rfl ?_
        refine qv_iinc (L' := [_, _, _, _, _, _]) rfl (nI_succ _).symm rfl ?_
        refine qv_goto (tgt := 1) rfl ?_
        refine ih (x + 1) fo an (by omega) hfo ?_
        have hno : ∀ y, y < x + 1 → btn L y → y < x := fun y hy hyb => by
          by_cases q : y = x
          · subst q; exact absurd hyb hb
          · omega
        rcases h with ⟨h0, h⟩ | ⟨h0, h1, h2, h3⟩
        · exact Or.inl ⟨h0, fun y hy hyb => h y (hno y hy hyb) hyb⟩
        · exact Or.inr ⟨h0, by omega, h2, fun y hy hyb hne => h3 y (hno y hy hyb) hyb hne⟩
  refine qW.blk rfl ?_
  refine qv_iconst (v := 0) rfl ?_
  refine qv_istore (L' := [_, _, _, _, _, _]) rfl ?_
  refine qv_iconst (v := 0) rfl ?_
  refine qv_istore (L' := [_, _, _, _, _, _]) rfl ?_
  refine qv_iconst (v := 0) rfl ?_
  refine qv_istore (L' := [_, _, _, _, _, _]) rfl ?_
  refine qv_nil (nx := 1) rfl ?_
  exact loop n 0 0 0 (by omega) (by omega) (Or.inl ⟨rfl, fun y hy => absurd hy (Nat.not_lt_zero _)⟩)
theorem w_byRanks (hP : pm_np PR) {d : Nat} (hd : 2 ≤ d) {n B : Nat} {f : Nat → Int32} {l : Nat → Nat} (hB : qLY B (0, 120, [])) (hB2 : 123 ≤ B) (hf : ∀ j, j < 120 → qE s B j = f j) (hn : n ≤ 7) (hl : usI n f l n) (hk : ∀ s', qfr 113 113 s s' → Q (some (.int (nI (dig l n)))) s') : qP X PR d 70 [.ref 111, .ref B, .int (nI n)] s Q := by
  refine qP.of (L := [_, _, _, _, _]) (by omega) (hP _ rfl) ms_Orders_byRanks rfl ?_
  show qW X PR (d - 1) (some .int) cd_Orders_byRanks 0 _ _ _ _
  have loop : ∀ (c i L : Nat) (s1 : QST), i + c = n → qfr 113 113 s s1 → L < 128 → (∀ y, y < 7 → (btn L y ↔ (y < n ∧ ∀ j, j < i → l j ≠ y))) → (∀ j, j < i → qE s1 113 j = nI (l j)) → qW X PR (d - 1) (some .int) cd_Orders_byRanks 1 [some (.ref (111)), some (.ref (B)), some (.int (nI n)), some (.int (nI L)), some (.int (nI i))] [] s1 Q := by
    intro c
    induction c with
    | zero =>
      intro i L s1 hi F1 hL hLb h1
      have e : i = n := by omega
      subst e
      refine qW.blk rfl ?_
      refine qv_iload rfl ?_
      refine qv_iload rfl ?_
      refine qv_icmp_geNt rfl rfl (by omega) (by omega) (by omega) (tgt := 3) rfl ?_
      refine qW.blk rfl ?_
      refine qv_aload rfl ?_
      refine qv_gr ly_111 ⟨rfl, rfl, rfl⟩ (by omega) ?_
      refine qv_iload rfl ?_
      refine qv_static sg_Orders_digits rfl (w_digits hP (by omega) ly_113 hn h1 ?_) 
      refine qv_iret (rfl) ?_
      exact hk s1 F1
    | succ c ih =>
      intro i L s1 hi F1 hL hLb h1
      have hli := hl.1.1 i (by omega)
      obtain ⟨k1, k2⟩ := clr_ok (l i) (by omega) L hL
      have hin : btn L (l i) := (hLb _ (by omega)).mpr ⟨hli, fun j hj => hl.1.2 j i hj (by omega)⟩
      have hmin : ∀ y, y < n → btn L y → y ≠ l i → bt f (l i) y := fun y hy hyb hne => hl.2 i (by omega) y hy (fun k hk => by
        by_cases q : k = i
        · subst q; exact fun z => hne z.symm
        · exact ((hLb y (by omega)).mp hyb).2 k (by omega))
      refine qW.blk rfl ?_
      refine qv_iload rfl ?_
      refine qv_iload rfl ?_
      refine qv_icmp_geNf rfl rfl (by omega) (by omega) (by omega) (nx := 2) rfl ?_
      refine qW.blk rfl ?_
      refine qv_aload rfl ?_
      refine qv_gr ly_111 ⟨rfl, rfl, rfl⟩ (by omega) ?_
      refine qv_iload rfl ?_
      refine qv_iload rfl ?_
      refine qv_aload rfl ?_
      refine qv_iload rfl ?_
      refine qv_static sg_Orders_greatestOf rfl (w_greatestOf hP (by omega) hB (fun j hj => (F1.e (by omega)).trans (hf j hj)) hn hL hli hin hmin ?_) 
      refine qv_is ly_113 rfl (by omega) (by decide) ?_
      refine qv_iload rfl ?_
      refine qv_iconst (v := 1) rfl ?_
      refine qv_aload rfl ?_
      refine qv_gr ly_111 ⟨rfl, rfl, rfl⟩ (by omega) ?_
      refine qv_iload rfl ?_
      refine qv_ia ly_113 rfl (by omega) (by decide) (qE_uEs) ?_
      refine qv_ishl ?_
      refine qv_iconst (v := (-1)) rfl ?_
      refine qv_ixor ?_
      refine qv_iand ?_
      refine qv_top (k1) ?_
      refine qv_istore (L' := [_, _, _, _, _]) rfl ?_
      refine qv_iinc (L' := [_, _, _, _, _]) rfl (nI_succ _).symm rfl ?_
      refine qv_goto (tgt := 1) rfl ?_
      refine ih (i + 1) _ _ (by omega) (F1.trans ((qfr.rf s1).uE (by omega))) k2 (fun y hy => ?_) (fun j hj => ?_)
      · rw [clr_bit _ (by omega) _ hL _ hy, hLb y hy]
        constructor
        · rintro ⟨⟨q1, q2⟩, q3⟩
          refine ⟨q1, fun j hj => ?_⟩
          by_cases e : j = i
          · subst e; exact fun z => q3 z.symm
          · exact q2 j (by omega)
        · rintro ⟨q1, q2⟩
          exact ⟨⟨q1, fun j hj => q2 j (by omega)⟩, fun z => q2 i (by omega) z.symm⟩
      · by_cases e : j = i
        · subst e; rw [qE_uEs]
        · rw [qE_uEk e]; exact h1 j (by omega)
  refine qW.blk rfl ?_
  refine qv_iconst (v := 1) rfl ?_
  refine qv_iload rfl ?_
  refine qv_ishl ?_
  refine qv_iconst (v := 1) rfl ?_
  refine qv_isub ?_
  refine qv_top (all7 n (by omega)) ?_
  refine qv_istore (L' := [_, _, _, _, _]) rfl ?_
  refine qv_iconst (v := 0) rfl ?_
  refine qv_istore (L' := [_, _, _, _, _]) rfl ?_
  refine qv_nil (nx := 1) rfl ?_
  refine loop n 0 _ s (by omega) (qfr.rf s) (all_bit n (by omega)).2 (fun y hy => ?_) (fun j hj => absurd hj (Nat.not_lt_zero _))
  rw [(all_bit n (by omega)).1 y (by omega)]
  exact ⟨fun q => ⟨q, fun j hj => absurd hj (Nat.not_lt_zero _)⟩, fun q => q.1⟩
end
section
variable {X : pm_X} {PR : pm_P}
theorem Sim_usual (hP : pm_np PR) (b : Int32) : Sim X PR 149 242 [.int b] := by
  intro d A hd hA
  have hC := hA.1
  have hn1 := hC.1
  have hn7 := hC.2.1
  rcases pl_of b 8 with ⟨l, hl8, rfl⟩ | hnb
  · obtain ⟨s1, s2, s3, s4, -⟩ := hA.2.2.2.2 l hl8
    by_cases hr : refB (aS A l).1 (aS A l).2.1 = 0
    · have h2 := refB_0 hr
      by_cases hz : aC A 0 ≤ (aS A l).2.2.1
      · obtain ⟨r, hus⟩ := us_ex (aC A 0) (aS A l).2.2.2.1 (aC A 0) (Nat.le_refl _)
        obtain ⟨hdec⟩ : Nonempty (∀ y x, Decidable (bt (aS A l).2.2.2.1 y x)) := ⟨fun _ _ => Classical.propDecidable _⟩
        refine ⟨.int (nI (dig r (aC A 0))), A, hA, ?_, ?_⟩
        · intro s Q hJ hk
          obtain ⟨c1, c2, -⟩ := hJ.2.2.2.2 l hl8
          obtain ⟨c3, c4, c5⟩ := c2 h2
          refine qP.of (L := [_, _, _, _]) (by omega) (hP _ rfl) ms_Desk_usual rfl ?_
          show qW X PR (d - 1) (some .int) cd_Desk_usual 0 _ _ _ _
          refine qW.blk rfl ?_
          refine qv_aload rfl ?_
          refine qv_iload rfl ?_
          refine qv_virtE (ly_8.rcv _) sg_Desk_shelfAt rfl rfl (r_shelfAt_y hP (by omega) hl8) ?_
          refine qv_astore (L' := [_, _, _, _]) rfl ?_
          refine qv_aload rfl ?_
          refine qv_iconst (v := 3) rfl ?_
          refine qv_staticE sg_Desk_refusalOf rfl (r_bytesRefusal hP (by omega) hl8 c1 s1 (fun _ => c3) s2) ?_
          refine qv_istore (L' := [_, _, _, _]) rfl ?_
          refine qv_aload rfl ?_
          refine qv_null_f (nx := 1) rfl ?_
          refine qW.blk rfl ?_
          refine qv_iload rfl ?_
          refine qv_if_eq_t (hr) (tgt := 3) rfl ?_
          refine qW.blk rfl ?_
          refine qv_aload rfl ?_
          refine qv_gi (ly_sh (d := l) (by omega)) ⟨rfl, rfl, rfl⟩ (c4) ?_
          refine qv_aload rfl ?_
          refine qv_gr ly_8 ⟨rfl, rfl, rfl⟩ (by omega) ?_
          refine qv_gi ly_9 ⟨rfl, rfl, rfl⟩ (hJ.1.1) ?_
          refine qv_icmp_geNt rfl rfl (by omega) (by omega) (by omega) (tgt := 5) rfl ?_
          refine qW.blk rfl ?_
          refine qv_aload rfl ?_
          refine qv_gr ly_8 ⟨rfl, rfl, rfl⟩ (by omega) ?_
          refine qv_aload rfl ?_
          refine qv_gr (ly_sh (d := l) (by omega)) ⟨rfl, rfl, rfl⟩ (by omega) ?_
          refine qv_aload rfl ?_
          refine qv_gr ly_8 ⟨rfl, rfl, rfl⟩ (by omega) ?_
          refine qv_gi ly_9 ⟨rfl, rfl, rfl⟩ (hJ.1.1) ?_
          refine qv_virt (ly_111.rcv _) sg_Orders_byRanks rfl rfl (w_byRanks hP (by omega) (ly_shc hl8) (by omega) c5 hn7 hus (fun t1 F1 => ?_)) 
          refine qv_iret (rfl) ?_
          exact hk t1 (hJ.fr hA F1 (by omega)) (F1.c (by omega) (by omega))
        · intro s Q hJ hk
          have J1 := hJ.thr (v := 0)
          obtain ⟨c1, c2, -⟩ := J1.2.2.2.2.1 l hl8
          obtain ⟨c3, c4, c5⟩ := c2 h2
          have e0 := J1.1 0 (by decide)
          have hr0 : refB (aS A l).1 (aS A l).2.1 = nI 0 := hr
          have fin := hk (uF s 163 0 0) J1 ((qfr.rf s).uF (by omega))
          have hb8 : ∀ i, i ≤ 7 → 8 ^ i ≤ 2097152 := fun i hi => Nat.le_trans (Nat.pow_le_pow_right (by omega) hi) (by decide)
          refine qP.of (L := [_, _, _, _, _, _, _, _, _, _, _, _, _]) (by omega) (hP _ rfl) ms_Model_usual rfl ?_
          show qW X PR (d - 1) (some .int) cd_Model_usual 0 _ _ _ _
          have loopy : ∀ (i x S : Nat), x < aC A 0 → (∀ L9 L11 : Option Value, qW X PR (d - 1) (some .int) cd_Model_usual 16 [some (.ref (163)), some (.int (nI l)), some (.int 0), some (.int (nI S)), some (.int (nI (8 ^ i))), some (.int (nI i)), some (.int (nI x)), some (.int (nI (bcnt (fun y => bt (aS A l).2.2.2.1 y x) (aC A 0)))), some (.int (nI (aC A 0))), L9, none, L11, none] [] (uF s 163 0 0) Q) → ∀ (c y : Nat) (L9 L11 : Option Value), y + c = aC A 0 → qW X PR (d - 1) (some .int) cd_Model_usual 9 [some (.ref (163)), some (.int (nI l)), some (.int 0), some (.int (nI S)), some (.int (nI (8 ^ i))), some (.int (nI i)), some (.int (nI x)), some (.int (nI (bcnt (fun y => bt (aS A l).2.2.2.1 y x) y))), some (.int (nI y)), L9, none, L11, none] [] (uF s 163 0 0) Q := by
            intro i x S hx k16 c
            induction c with
            | zero =>
              intro y L9 L11 hy
              have e : y = aC A 0 := by omega
              rw [e]
              refine qW.blk rfl ?_
              refine qv_iload rfl ?_
              refine qv_aload rfl ?_
              refine qv_gr ly_163 ⟨rfl, rfl, rfl⟩ (by omega) ?_
              refine qv_iconst (v := 0) rfl ?_
              refine qv_ia (j := 0) ly_164 rfl (by omega) (by decide) (e0) ?_
              refine qv_icmp_geNt rfl rfl (by omega) (by omega) (by omega) (tgt := 16) rfl ?_
              exact k16 L9 L11
            | succ c ih =>
              intro y L9 L11 hy
              have nx := fun L9 L11 => ih (y + 1) L9 L11 (by omega)
              rw [bcnt_s] at nx
              by_cases h1 : (aS A l).2.2.2.1 x < (aS A l).2.2.2.1 y
              · rw [if_pos (show bt (aS A l).2.2.2.1 y x from Or.inl h1)] at nx
                refine qW.blk rfl ?_
                refine qv_iload rfl ?_
                refine qv_aload rfl ?_
                refine qv_gr ly_163 ⟨rfl, rfl, rfl⟩ (by omega) ?_
                refine qv_iconst (v := 0) rfl ?_
                refine qv_ia (j := 0) ly_164 rfl (by omega) (by decide) (e0) ?_
                refine qv_icmp_geNf rfl rfl (by omega) (by omega) (by omega) (nx := 10) rfl ?_
                refine qW.blk rfl ?_
                refine qv_aload rfl ?_
                refine qv_gr ly_163 ⟨rfl, rfl, rfl⟩ (by omega) ?_
                refine qv_iconst (v := 120) rfl ?_
                refine qv_iload rfl ?_
                refine qv_imulN (p := 120) rfl rfl ?_
                refine qv_iload rfl ?_
                refine qv_iaddN rfl rfl ?_
                refine qv_la ly_201 rfl (by omega) (by decide) (c5 y (by omega)) ?_
                refine qv_lstore (L' := [_, _, _, _, _, _, _, _, _, _, _, _, _]) rfl ?_
                refine qv_aload rfl ?_
                refine qv_gr ly_163 ⟨rfl, rfl, rfl⟩ (by omega) ?_
                refine qv_iconst (v := 120) rfl ?_
                refine qv_iload rfl ?_
                refine qv_imulN (p := 120) rfl rfl ?_
                refine qv_iload rfl ?_
                refine qv_iaddN rfl rfl ?_
                refine qv_la ly_201 rfl (by omega) (by decide) (c5 x (by omega)) ?_
                refine qv_lstore (L' := [_, _, _, _, _, _, _, _, _, _, _, _, _]) rfl ?_
                refine qv_iload rfl ?_
                refine qv_lload rfl ?_
                refine qv_lload rfl ?_
                refine qv_lcmp ?_
                refine qv_if_gt_t ((lc_gt _ _).mpr h1) (tgt := 13) rfl ?_
                refine qW.blk rfl ?_
                refine qv_iconst (v := 1) rfl ?_
                refine qv_goto (tgt := 15) rfl ?_
                refine qW.blk rfl ?_
                refine qv_iaddN (q := 1) rfl rfl ?_
                refine qv_istore (L' := [_, _, _, _, _, _, _, _, _, _, _, _, _]) rfl ?_
                refine qv_iinc (L' := [_, _, _, _, _, _, _, _, _, _, _, _, _]) rfl (nI_succ _).symm rfl ?_
                refine qv_goto (tgt := 9) rfl ?_
                exact nx _ _
              · by_cases h3 : (aS A l).2.2.2.1 y = (aS A l).2.2.2.1 x
                · by_cases h4 : y < x
                  · rw [if_pos (show bt (aS A l).2.2.2.1 y x from Or.inr ⟨h3, h4⟩)] at nx
                    refine qW.blk rfl ?_
                    refine qv_iload rfl ?_
                    refine qv_aload rfl ?_
                    refine qv_gr ly_163 ⟨rfl, rfl, rfl⟩ (by omega) ?_
                    refine qv_iconst (v := 0) rfl ?_
                    refine qv_ia (j := 0) ly_164 rfl (by omega) (by decide) (e0) ?_
                    refine qv_icmp_geNf rfl rfl (by omega) (by omega) (by omega) (nx := 10) rfl ?_
                    refine qW.blk rfl ?_
                    refine qv_aload rfl ?_
                    refine qv_gr ly_163 ⟨rfl, rfl, rfl⟩ (by omega) ?_
                    refine qv_iconst (v := 120) rfl ?_
                    refine qv_iload rfl ?_
                    refine qv_imulN (p := 120) rfl rfl ?_
                    refine qv_iload rfl ?_
                    refine qv_iaddN rfl rfl ?_
                    refine qv_la ly_201 rfl (by omega) (by decide) (c5 y (by omega)) ?_
                    refine qv_lstore (L' := [_, _, _, _, _, _, _, _, _, _, _, _, _]) rfl ?_
                    refine qv_aload rfl ?_
                    refine qv_gr ly_163 ⟨rfl, rfl, rfl⟩ (by omega) ?_
                    refine qv_iconst (v := 120) rfl ?_
                    refine qv_iload rfl ?_
                    refine qv_imulN (p := 120) rfl rfl ?_
                    refine qv_iload rfl ?_
                    refine qv_iaddN rfl rfl ?_
                    refine qv_la ly_201 rfl (by omega) (by decide) (c5 x (by omega)) ?_
                    refine qv_lstore (L' := [_, _, _, _, _, _, _, _, _, _, _, _, _]) rfl ?_
                    refine qv_iload rfl ?_
                    refine qv_lload rfl ?_
                    refine qv_lload rfl ?_
                    refine qv_lcmp ?_
                    refine qv_if_gt_f (fun q => h1 ((lc_gt _ _).mp q)) (nx := 11) rfl ?_
                    refine qW.blk rfl ?_
                    refine qv_lload rfl ?_
                    refine qv_lload rfl ?_
                    refine qv_lcmp ?_
                    refine qv_if_ne_f (fun q => q ((lc_eq _ _).mpr h3)) (nx := 12) rfl ?_
                    refine qW.blk rfl ?_
                    refine qv_iload rfl ?_
                    refine qv_iload rfl ?_
                    refine qv_icmp_geNf rfl rfl (by omega) (by omega) (by omega) (nx := 13) rfl ?_
                    refine qW.blk rfl ?_
                    refine qv_iconst (v := 1) rfl ?_
                    refine qv_goto (tgt := 15) rfl ?_
                    refine qW.blk rfl ?_
                    refine qv_iaddN (q := 1) rfl rfl ?_
                    refine qv_istore (L' := [_, _, _, _, _, _, _, _, _, _, _, _, _]) rfl ?_
                    refine qv_iinc (L' := [_, _, _, _, _, _, _, _, _, _, _, _, _]) rfl (nI_succ _).symm rfl ?_
                    refine qv_goto (tgt := 9) rfl ?_
                    exact nx _ _
                  · rw [if_neg (show ¬ bt (aS A l).2.2.2.1 y x by rintro (q | q); exact h1 q; exact h4 q.2)] at nx
                    refine qW.blk rfl ?_
                    refine qv_iload rfl ?_
                    refine qv_aload rfl ?_
                    refine qv_gr ly_163 ⟨rfl, rfl, rfl⟩ (by omega) ?_
                    refine qv_iconst (v := 0) rfl ?_
                    refine qv_ia (j := 0) ly_164 rfl (by omega) (by decide) (e0) ?_
                    refine qv_icmp_geNf rfl rfl (by omega) (by omega) (by omega) (nx := 10) rfl ?_
                    refine qW.blk rfl ?_
                    refine qv_aload rfl ?_
                    refine qv_gr ly_163 ⟨rfl, rfl, rfl⟩ (by omega) ?_
                    refine qv_iconst (v := 120) rfl ?_
                    refine qv_iload rfl ?_
                    refine qv_imulN (p := 120) rfl rfl ?_
                    refine qv_iload rfl ?_
                    refine qv_iaddN rfl rfl ?_
                    refine qv_la ly_201 rfl (by omega) (by decide) (c5 y (by omega)) ?_
                    refine qv_lstore (L' := [_, _, _, _, _, _, _, _, _, _, _, _, _]) rfl ?_
                    refine qv_aload rfl ?_
                    refine qv_gr ly_163 ⟨rfl, rfl, rfl⟩ (by omega) ?_
                    refine qv_iconst (v := 120) rfl ?_
                    refine qv_iload rfl ?_
                    refine qv_imulN (p := 120) rfl rfl ?_
                    refine qv_iload rfl ?_
                    refine qv_iaddN rfl rfl ?_
                    refine qv_la ly_201 rfl (by omega) (by decide) (c5 x (by omega)) ?_
                    refine qv_lstore (L' := [_, _, _, _, _, _, _, _, _, _, _, _, _]) rfl ?_
                    refine qv_iload rfl ?_
                    refine qv_lload rfl ?_
                    refine qv_lload rfl ?_
                    refine qv_lcmp ?_
                    refine qv_if_gt_f (fun q => h1 ((lc_gt _ _).mp q)) (nx := 11) rfl ?_
                    refine qW.blk rfl ?_
                    refine qv_lload rfl ?_
                    refine qv_lload rfl ?_
                    refine qv_lcmp ?_
                    refine qv_if_ne_f (fun q => q ((lc_eq _ _).mpr h3)) (nx := 12) rfl ?_
                    refine qW.blk rfl ?_
                    refine qv_iload rfl ?_
                    refine qv_iload rfl ?_
                    refine qv_icmp_geNt rfl rfl (by omega) (by omega) (by omega) (tgt := 14) rfl ?_
                    refine qW.blk rfl ?_
                    refine qv_iconst (v := 0) rfl ?_
                    refine qv_nil (nx := 15) rfl ?_
                    refine qW.blk rfl ?_
                    refine qv_iaddN (q := 0) rfl rfl ?_
                    refine qv_istore (L' := [_, _, _, _, _, _, _, _, _, _, _, _, _]) rfl ?_
                    refine qv_iinc (L' := [_, _, _, _, _, _, _, _, _, _, _, _, _]) rfl (nI_succ _).symm rfl ?_
                    refine qv_goto (tgt := 9) rfl ?_
                    exact nx _ _
                · rw [if_neg (show ¬ bt (aS A l).2.2.2.1 y x by rintro (q | q); exact h1 q; exact h3 q.1)] at nx
                  refine qW.blk rfl ?_
                  refine qv_iload rfl ?_
                  refine qv_aload rfl ?_
                  refine qv_gr ly_163 ⟨rfl, rfl, rfl⟩ (by omega) ?_
                  refine qv_iconst (v := 0) rfl ?_
                  refine qv_ia (j := 0) ly_164 rfl (by omega) (by decide) (e0) ?_
                  refine qv_icmp_geNf rfl rfl (by omega) (by omega) (by omega) (nx := 10) rfl ?_
                  refine qW.blk rfl ?_
                  refine qv_aload rfl ?_
                  refine qv_gr ly_163 ⟨rfl, rfl, rfl⟩ (by omega) ?_
                  refine qv_iconst (v := 120) rfl ?_
                  refine qv_iload rfl ?_
                  refine qv_imulN (p := 120) rfl rfl ?_
                  refine qv_iload rfl ?_
                  refine qv_iaddN rfl rfl ?_
                  refine qv_la ly_201 rfl (by omega) (by decide) (c5 y (by omega)) ?_
                  refine qv_lstore (L' := [_, _, _, _, _, _, _, _, _, _, _, _, _]) rfl ?_
                  refine qv_aload rfl ?_
                  refine qv_gr ly_163 ⟨rfl, rfl, rfl⟩ (by omega) ?_
                  refine qv_iconst (v := 120) rfl ?_
                  refine qv_iload rfl ?_
                  refine qv_imulN (p := 120) rfl rfl ?_
                  refine qv_iload rfl ?_
                  refine qv_iaddN rfl rfl ?_
                  refine qv_la ly_201 rfl (by omega) (by decide) (c5 x (by omega)) ?_
                  refine qv_lstore (L' := [_, _, _, _, _, _, _, _, _, _, _, _, _]) rfl ?_
                  refine qv_iload rfl ?_
                  refine qv_lload rfl ?_
                  refine qv_lload rfl ?_
                  refine qv_lcmp ?_
                  refine qv_if_gt_f (fun q => h1 ((lc_gt _ _).mp q)) (nx := 11) rfl ?_
                  refine qW.blk rfl ?_
                  refine qv_lload rfl ?_
                  refine qv_lload rfl ?_
                  refine qv_lcmp ?_
                  refine qv_if_ne_t (fun q => h3 ((lc_eq _ _).mp q)) (tgt := 14) rfl ?_
                  refine qW.blk rfl ?_
                  refine qv_iconst (v := 0) rfl ?_
                  refine qv_nil (nx := 15) rfl ?_
                  refine qW.blk rfl ?_
                  refine qv_iaddN (q := 0) rfl rfl ?_
                  refine qv_istore (L' := [_, _, _, _, _, _, _, _, _, _, _, _, _]) rfl ?_
                  refine qv_iinc (L' := [_, _, _, _, _, _, _, _, _, _, _, _, _]) rfl (nI_succ _).symm rfl ?_
                  refine qv_goto (tgt := 9) rfl ?_
                  exact nx _ _
          have loopx : ∀ (i : Nat), i < aC A 0 → (∀ L7 L8 L9 L11 : Option Value, qW X PR (d - 1) (some .int) cd_Model_usual 20 [some (.ref (163)), some (.int (nI l)), some (.int 0), some (.int (nI (dig r (i + 1)))), some (.int (nI (8 ^ i))), some (.int (nI i)), some (.int (nI (aC A 0))), L7, L8, L9, none, L11, none] [] (uF s 163 0 0) Q) → ∀ (c x : Nat) (L7 L8 L9 L11 : Option Value), x + c = aC A 0 → qW X PR (d - 1) (some .int) cd_Model_usual 7 [some (.ref (163)), some (.int (nI l)), some (.int 0), some (.int (nI (dig r i + if r i < x then r i * 8 ^ i else 0))), some (.int (nI (8 ^ i))), some (.int (nI i)), some (.int (nI x)), L7, L8, L9, none, L11, none] [] (uF s 163 0 0) Q := by
            intro i hi k20 c
            have hri := hus.1.1 i hi
            induction c with
            | zero =>
              intro x L7 L8 L9 L11 hx
              have e : x = aC A 0 := by omega
              rw [e, if_pos hri]
              refine qW.blk rfl ?_
              refine qv_iload rfl ?_
              refine qv_aload rfl ?_
              refine qv_gr ly_163 ⟨rfl, rfl, rfl⟩ (by omega) ?_
              refine qv_iconst (v := 0) rfl ?_
              refine qv_ia (j := 0) ly_164 rfl (by omega) (by decide) (e0) ?_
              refine qv_icmp_geNt rfl rfl (by omega) (by omega) (by omega) (tgt := 20) rfl ?_
              exact k20 L7 L8 L9 L11
            | succ c ih =>
              intro x L7 L8 L9 L11 hx
              have nx := fun L7 L8 L9 L11 => ih (x + 1) L7 L8 L9 L11 (by omega)
              have hle := bcnt_le (P := fun y => bt (aS A l).2.2.2.1 y x) (aC A 0)
              refine qW.blk rfl ?_
              refine qv_iload rfl ?_
              refine qv_aload rfl ?_
              refine qv_gr ly_163 ⟨rfl, rfl, rfl⟩ (by omega) ?_
              refine qv_iconst (v := 0) rfl ?_
              refine qv_ia (j := 0) ly_164 rfl (by omega) (by decide) (e0) ?_
              refine qv_icmp_geNf rfl rfl (by omega) (by omega) (by omega) (nx := 8) rfl ?_
              refine qW.blk rfl ?_
              refine qv_iconst (v := 0) rfl ?_
              refine qv_istore (L' := [_, _, _, _, _, _, _, _, _, _, _, _, _]) rfl ?_
              refine qv_iconst (v := 0) rfl ?_
              refine qv_istore (L' := [_, _, _, _, _, _, _, _, _, _, _, _, _]) rfl ?_
              refine qv_nil (nx := 9) rfl ?_
              refine loopy i x _ (by omega) (fun L9 L11 => ?_) (aC A 0) 0 _ _ (by omega)
              by_cases hxi : x = r i
              · have hrk : bcnt (fun y => bt (aS A l).2.2.2.1 y x) (aC A 0) = i := by rw [hxi]; exact us_rank hus hi
                have e : (dig r i + if r i < x + 1 then r i * 8 ^ i else 0) = (dig r i + if r i < x then r i * 8 ^ i else 0) + x * 8 ^ i := by
                  rw [if_pos (by omega), if_neg (by omega), hxi, Nat.add_zero]
                rw [e] at nx
                refine qW.blk rfl ?_
                refine qv_iload rfl ?_
                refine qv_iload rfl ?_
                refine qv_iload rfl ?_
                refine qv_icmp_ne_f (fun q => q (congrArg nI hrk)) (nx := 17) rfl ?_
                refine qW.blk rfl ?_
                refine qv_iload rfl ?_
                refine qv_iload rfl ?_
                refine qv_imulN rfl rfl ?_
                refine qv_goto (tgt := 19) rfl ?_
                refine qW.blk rfl ?_
                refine qv_iaddN rfl rfl ?_
                refine qv_istore (L' := [_, _, _, _, _, _, _, _, _, _, _, _, _]) rfl ?_
                refine qv_iinc (L' := [_, _, _, _, _, _, _, _, _, _, _, _, _]) rfl (nI_succ _).symm rfl ?_
                refine qv_goto (tgt := 7) rfl ?_
                exact nx _ _ _ _
              · have hrk : ¬ bcnt (fun y => bt (aS A l).2.2.2.1 y x) (aC A 0) = i := fun q => by
                  obtain ⟨j, hj, e⟩ := row_full hus.1 (show x < aC A 0 by omega)
                  rw [← e, us_rank hus hj] at q
                  rw [q] at e
                  exact hxi e.symm
                have e : (dig r i + if r i < x + 1 then r i * 8 ^ i else 0) = (dig r i + if r i < x then r i * 8 ^ i else 0) + 0 := by
                  by_cases q : r i < x
                  · rw [if_pos q, if_pos (by omega)]; rfl
                  · rw [if_neg q, if_neg (by omega)]
                rw [e] at nx
                refine qW.blk rfl ?_
                refine qv_iload rfl ?_
                refine qv_iload rfl ?_
                refine qv_iload rfl ?_
                refine qv_icmp_ne_t (fun q => hrk ((nI_eq (by omega) (by omega)).mp q)) (tgt := 18) rfl ?_
                refine qW.blk rfl ?_
                refine qv_iconst (v := 0) rfl ?_
                refine qv_nil (nx := 19) rfl ?_
                refine qW.blk rfl ?_
                refine qv_iaddN (q := 0) rfl rfl ?_
                refine qv_istore (L' := [_, _, _, _, _, _, _, _, _, _, _, _, _]) rfl ?_
                refine qv_iinc (L' := [_, _, _, _, _, _, _, _, _, _, _, _, _]) rfl (nI_succ _).symm rfl ?_
                refine qv_goto (tgt := 7) rfl ?_
                exact nx _ _ _ _
          have loop : ∀ (c i : Nat) (L6 L7 L8 L9 L11 : Option Value), i + c = aC A 0 → qW X PR (d - 1) (some .int) cd_Model_usual 5 [some (.ref (163)), some (.int (nI l)), some (.int 0), some (.int (nI (dig r i))), some (.int (nI (8 ^ i))), some (.int (nI i)), L6, L7, L8, L9, none, L11, none] [] (uF s 163 0 0) Q := by
            intro c
            induction c with
            | zero =>
              intro i L6 L7 L8 L9 L11 hi
              have e : i = aC A 0 := by omega
              rw [e]
              refine qW.blk rfl ?_
              refine qv_iload rfl ?_
              refine qv_aload rfl ?_
              refine qv_gr ly_163 ⟨rfl, rfl, rfl⟩ (by omega) ?_
              refine qv_iconst (v := 0) rfl ?_
              refine qv_ia (j := 0) ly_164 rfl (by omega) (by decide) (e0) ?_
              refine qv_icmp_geNt rfl rfl (by omega) (by omega) (by omega) (tgt := 21) rfl ?_
              refine qW.blk rfl ?_
              refine qv_iload rfl ?_
              refine qv_iret (rfl) ?_
              exact fin
            | succ c ih =>
              intro i L6 L7 L8 L9 L11 hi
              have nx := fun L6 L7 L8 L9 L11 => ih (i + 1) L6 L7 L8 L9 L11 (by omega)
              rw [Nat.pow_succ] at nx
              have lx := loopx i (by omega) (fun L7 L8 L9 L11 => by
                refine qW.blk rfl ?_
                refine qv_iload rfl ?_
                refine qv_iconst (v := 8) rfl ?_
                refine qv_imulN (q := 8) rfl rfl ?_
                refine qv_istore (L' := [_, _, _, _, _, _, _, _, _, _, _, _, _]) rfl ?_
                refine qv_iinc (L' := [_, _, _, _, _, _, _, _, _, _, _, _, _]) rfl (nI_succ _).symm rfl ?_
                refine qv_goto (tgt := 5) rfl ?_
                exact nx _ _ _ _ _) (aC A 0) 0
              rw [if_neg (Nat.not_lt_zero _), Nat.add_zero] at lx
              refine qW.blk rfl ?_
              refine qv_iload rfl ?_
              refine qv_aload rfl ?_
              refine qv_gr ly_163 ⟨rfl, rfl, rfl⟩ (by omega) ?_
              refine qv_iconst (v := 0) rfl ?_
              refine qv_ia (j := 0) ly_164 rfl (by omega) (by decide) (e0) ?_
              refine qv_icmp_geNf rfl rfl (by omega) (by omega) (by omega) (nx := 6) rfl ?_
              refine qW.blk rfl ?_
              refine qv_iconst (v := 0) rfl ?_
              refine qv_istore (L' := [_, _, _, _, _, _, _, _, _, _, _, _, _]) rfl ?_
              refine qv_nil (nx := 7) rfl ?_
              exact lx _ _ _ _ (by omega)
          refine qW.blk rfl ?_
          refine qv_aload rfl ?_
          refine qv_iconst (v := 0) rfl ?_
          refine qv_pi ly_163 ⟨rfl, rfl, rfl⟩ (rfl) ?_
          refine qv_aload rfl ?_
          refine qv_iload rfl ?_
          refine qv_virt (ly_163.rcv _) sg_Model_lacks rfl rfl (w_M_lacks hP (by omega) hl8 c1 s1 (fun _ => c3) s2 ?_) 
          refine qv_istore (L' := [_, _, _, _, _, _, _, _, _, _, _, _, _]) rfl ?_
          refine qv_iload rfl ?_
          refine qv_if_ge_t (by rw [hr0]; decide) (tgt := 2) rfl ?_
          refine qW.blk rfl ?_
          refine qv_aload rfl ?_
          refine qv_gr ly_163 ⟨rfl, rfl, rfl⟩ (by omega) ?_
          refine qv_iload rfl ?_
          refine qv_ia ly_200 rfl (by omega) (by decide) (c4) ?_
          refine qv_aload rfl ?_
          refine qv_gr ly_163 ⟨rfl, rfl, rfl⟩ (by omega) ?_
          refine qv_iconst (v := 0) rfl ?_
          refine qv_ia (j := 0) ly_164 rfl (by omega) (by decide) (e0) ?_
          refine qv_icmp_geNt rfl rfl (by omega) (by omega) (by omega) (tgt := 4) rfl ?_
          refine qW.blk rfl ?_
          refine qv_iconst (v := 0) rfl ?_
          refine qv_istore (L' := [_, _, _, _, _, _, _, _, _, _, _, _, _]) rfl ?_
          refine qv_iconst (v := 1) rfl ?_
          refine qv_istore (L' := [_, _, _, _, _, _, _, _, _, _, _, _, _]) rfl ?_
          refine qv_iconst (v := 0) rfl ?_
          refine qv_istore (L' := [_, _, _, _, _, _, _, _, _, _, _, _, _]) rfl ?_
          refine qv_nil (nx := 5) rfl ?_
          rw [hr]
          exact loop (aC A 0) 0 _ _ _ _ _ (by omega)
      · refine ⟨.int (-13), A, hA, ?_, ?_⟩
        · intro s Q hJ hk
          obtain ⟨c1, c2, -⟩ := hJ.2.2.2.2 l hl8
          obtain ⟨c3, c4, c5⟩ := c2 h2
          refine qP.of (L := [_, _, _, _]) (by omega) (hP _ rfl) ms_Desk_usual rfl ?_
          show qW X PR (d - 1) (some .int) cd_Desk_usual 0 _ _ _ _
          refine qW.blk rfl ?_
          refine qv_aload rfl ?_
          refine qv_iload rfl ?_
          refine qv_virtE (ly_8.rcv _) sg_Desk_shelfAt rfl rfl (r_shelfAt_y hP (by omega) hl8) ?_
          refine qv_astore (L' := [_, _, _, _]) rfl ?_
          refine qv_aload rfl ?_
          refine qv_iconst (v := 3) rfl ?_
          refine qv_staticE sg_Desk_refusalOf rfl (r_bytesRefusal hP (by omega) hl8 c1 s1 (fun _ => c3) s2) ?_
          refine qv_istore (L' := [_, _, _, _]) rfl ?_
          refine qv_aload rfl ?_
          refine qv_null_f (nx := 1) rfl ?_
          refine qW.blk rfl ?_
          refine qv_iload rfl ?_
          refine qv_if_eq_t (hr) (tgt := 3) rfl ?_
          refine qW.blk rfl ?_
          refine qv_aload rfl ?_
          refine qv_gi (ly_sh (d := l) (by omega)) ⟨rfl, rfl, rfl⟩ (c4) ?_
          refine qv_aload rfl ?_
          refine qv_gr ly_8 ⟨rfl, rfl, rfl⟩ (by omega) ?_
          refine qv_gi ly_9 ⟨rfl, rfl, rfl⟩ (hJ.1.1) ?_
          refine qv_icmp_geNf rfl rfl (by omega) (by omega) (by omega) (nx := 4) rfl ?_
          refine qW.blk rfl ?_
          refine qv_iconst (v := (-13)) rfl ?_
          refine qv_iret (rfl) ?_
          exact hk s hJ (cfr.rf s)
        · intro s Q hJ hk
          have J1 := hJ.thr (v := 0)
          obtain ⟨c1, c2, -⟩ := J1.2.2.2.2.1 l hl8
          obtain ⟨c3, c4, c5⟩ := c2 h2
          have e0 := J1.1 0 (by decide)
          have hr0 : refB (aS A l).1 (aS A l).2.1 = nI 0 := hr
          refine qP.of (L := [_, _, _, _, _, _, _, _, _, _, _, _, _]) (by omega) (hP _ rfl) ms_Model_usual rfl ?_
          show qW X PR (d - 1) (some .int) cd_Model_usual 0 _ _ _ _
          refine qW.blk rfl ?_
          refine qv_aload rfl ?_
          refine qv_iconst (v := 0) rfl ?_
          refine qv_pi ly_163 ⟨rfl, rfl, rfl⟩ (rfl) ?_
          refine qv_aload rfl ?_
          refine qv_iload rfl ?_
          refine qv_virt (ly_163.rcv _) sg_Model_lacks rfl rfl (w_M_lacks hP (by omega) hl8 c1 s1 (fun _ => c3) s2 ?_) 
          refine qv_istore (L' := [_, _, _, _, _, _, _, _, _, _, _, _, _]) rfl ?_
          refine qv_iload rfl ?_
          refine qv_if_ge_t (by rw [hr0]; decide) (tgt := 2) rfl ?_
          refine qW.blk rfl ?_
          refine qv_aload rfl ?_
          refine qv_gr ly_163 ⟨rfl, rfl, rfl⟩ (by omega) ?_
          refine qv_iload rfl ?_
          refine qv_ia ly_200 rfl (by omega) (by decide) (c4) ?_
          refine qv_aload rfl ?_
          refine qv_gr ly_163 ⟨rfl, rfl, rfl⟩ (by omega) ?_
          refine qv_iconst (v := 0) rfl ?_
          refine qv_ia (j := 0) ly_164 rfl (by omega) (by decide) (e0) ?_
          refine qv_icmp_geNf rfl rfl (by omega) (by omega) (by omega) (nx := 3) rfl ?_
          refine qW.blk rfl ?_
          refine qv_iconst (v := (-13)) rfl ?_
          refine qv_iret (rfl) ?_
          exact hk (uF s 163 0 0) J1 ((qfr.rf s).uF (by omega))
    · refine ⟨.int (refB (aS A l).1 (aS A l).2.1), A, hA, ?_, ?_⟩
      · intro s Q hJ hk
        obtain ⟨c1, c2, -⟩ := hJ.2.2.2.2 l hl8
        refine qP.of (L := [_, _, _, _]) (by omega) (hP _ rfl) ms_Desk_usual rfl ?_
        show qW X PR (d - 1) (some .int) cd_Desk_usual 0 _ _ _ _
        refine qW.blk rfl ?_
        refine qv_aload rfl ?_
        refine qv_iload rfl ?_
        refine qv_virtE (ly_8.rcv _) sg_Desk_shelfAt rfl rfl (r_shelfAt_y hP (by omega) hl8) ?_
        refine qv_astore (L' := [_, _, _, _]) rfl ?_
        refine qv_aload rfl ?_
        refine qv_iconst (v := 3) rfl ?_
        refine qv_staticE sg_Desk_refusalOf rfl (r_bytesRefusal hP (by omega) hl8 c1 s1 (fun z => (c2 z).1) s2) ?_
        refine qv_istore (L' := [_, _, _, _]) rfl ?_
        refine qv_aload rfl ?_
        refine qv_null_f (nx := 1) rfl ?_
        refine qW.blk rfl ?_
        refine qv_iload rfl ?_
        refine qv_if_eq_f (hr) (nx := 2) rfl ?_
        refine qW.blk rfl ?_
        refine qv_iload rfl ?_
        refine qv_iret (rfl) ?_
        exact hk s hJ (cfr.rf s)
      · intro s Q hJ hk
        have J1 := hJ.thr (v := 0)
        obtain ⟨c1, c2, -⟩ := J1.2.2.2.2.1 l hl8
        refine qP.of (L := [_, _, _, _, _, _, _, _, _, _, _, _, _]) (by omega) (hP _ rfl) ms_Model_usual rfl ?_
        show qW X PR (d - 1) (some .int) cd_Model_usual 0 _ _ _ _
        refine qW.blk rfl ?_
        refine qv_aload rfl ?_
        refine qv_iconst (v := 0) rfl ?_
        refine qv_pi ly_163 ⟨rfl, rfl, rfl⟩ (rfl) ?_
        refine qv_aload rfl ?_
        refine qv_iload rfl ?_
        refine qv_virt (ly_163.rcv _) sg_Model_lacks rfl rfl (w_M_lacks hP (by omega) hl8 c1 s1 (fun z => (c2 z).1) s2 ?_) 
        refine qv_istore (L' := [_, _, _, _, _, _, _, _, _, _, _, _, _]) rfl ?_
        refine qv_iload rfl ?_
        refine qv_if_ge_f (refB_neg hr) (nx := 1) rfl ?_
        refine qW.blk rfl ?_
        refine qv_iload rfl ?_
        refine qv_iret (rfl) ?_
        exact hk (uF s 163 0 0) J1 ((qfr.rf s).uF (by omega))
  · refine ⟨.int (-1), A, hA, ?_, ?_⟩
    · intro s Q hJ hk
      refine qP.of (L := [_, _, _, _]) (by omega) (hP _ rfl) ms_Desk_usual rfl ?_
      show qW X PR (d - 1) (some .int) cd_Desk_usual 0 _ _ _ _
      refine qW.blk rfl ?_
      refine qv_aload rfl ?_
      refine qv_iload rfl ?_
      refine qv_virtE (ly_8.rcv _) sg_Desk_shelfAt rfl rfl (r_shelfAt_n hP (by omega) hnb) ?_
      refine qv_astoreN (L' := [_, _, _, _]) rfl ?_
      refine qv_aloadN rfl ?_
      refine qv_iconst (v := 3) rfl ?_
      refine qv_staticE sg_Desk_refusalOf rfl (r_refusalNull hP (by omega) _) ?_
      refine qv_istore (L' := [_, _, _, _]) rfl ?_
      refine qv_aloadN rfl ?_
      refine qv_null_t (tgt := 2) rfl ?_
      refine qW.blk rfl ?_
      refine qv_iload rfl ?_
      refine qv_iret (rfl) ?_
      exact hk s hJ (cfr.rf s)
    · intro s Q hJ hk
      have J1 := hJ.thr (v := 0)
      refine qP.of (L := [_, _, _, _, _, _, _, _, _, _, _, _, _]) (by omega) (hP _ rfl) ms_Model_usual rfl ?_
      show qW X PR (d - 1) (some .int) cd_Model_usual 0 _ _ _ _
      refine qW.blk rfl ?_
      refine qv_aload rfl ?_
      refine qv_iconst (v := 0) rfl ?_
      refine qv_pi ly_163 ⟨rfl, rfl, rfl⟩ (rfl) ?_
      refine qv_aload rfl ?_
      refine qv_iload rfl ?_
      refine qv_virt (ly_163.rcv _) sg_Model_lacks rfl rfl (w_M_lacks_no hP (by omega) hnb ?_) 
      refine qv_istore (L' := [_, _, _, _, _, _, _, _, _, _, _, _, _]) rfl ?_
      refine qv_iload rfl ?_
      refine qv_if_ge_f (by decide) (nx := 1) rfl ?_
      refine qW.blk rfl ?_
      refine qv_iload rfl ?_
      refine qv_iret (rfl) ?_
      exact hk (uF s 163 0 0) J1 ((qfr.rf s).uF (by omega))
end
