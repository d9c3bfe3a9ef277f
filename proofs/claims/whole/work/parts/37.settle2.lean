/-! the reference: all nodes are settled, the rest -/
section
variable {X : pm_X} {PR : pm_P} {S : pm_S} {i : Nat → Int32} {a : Nat → Nat → Int32} {r bt : Nat → Int64} {N : Nat}
theorem sq_fr.trans {a b c : Nat → Nat → Int32} {n : Nat} (h : sq_fr a b n) (g : sq_fr b c n) : sq_fr a c n := ⟨fun k hk => (g.1 k hk).trans (h.1 k hk), fun k j hj hk => (g.2.1 k j hj hk).trans (h.2.1 k j hj hk), fun j hj => (g.2.2 j hj).trans (h.2.2 j hj)⟩
theorem sq_up21 {a : Nat → Nat → Int32} {n : Nat} {v : Int32} : sq_fr a (va_up a 21 (upd (a 21) n v)) n := by
  refine ⟨fun k hk => ?_, fun k j hj _ => ?_, fun j _ => rfl⟩
  · simp only [va_up]; rw [if_neg (by omega)]
  · simp only [va_up]
    split
    · rename_i h; rw [h]; simp [upd, hj]
    · rfl
/-- one node of the loop, a QUESTION -/
theorem s_quest (hP : pm_np PR) {d : Nat} (hd : 7 ≤ d) (hM : MR S i a r bt) (hN : v_ok i a N) (hq : ∀ m, m < N → v_kin i a m = 2 → ∃ q, q < 6 ∧ a 0 (30 + m) = nI q) {n A B : Nat} (hn : n < 110) (hA : A < n) (hB : B < n) (e9 : a 9 n = 1) (eA : a 10 n = nI A) (eB : a 11 n = nI B) {vA vB : NV} {t : TR} (hvA : nd_all a t A vA) (hvB : nd_all a t B vB) (ht : (t n).1 = 1) :
    ∃ (S' : pm_S) (a' : Nat → Nat → Int32), MR S' i a' r bt ∧ mfr S S' ∧ sq_fr a a' n ∧ nd_all a' t n (nv_q i a N vA vB) ∧
      ∀ (u : pm_T) (L2 L3 : Option Value), (∀ L2 L3 : Option Value, pm_to X pm_Ms (pm_run X pm_Ms PR d) (some .int) cd_Model_settle 15 ([some (.ref 163), some (.int (nI n)), L2, L3], [], S') u) → pm_to X pm_Ms (pm_run X pm_Ms PR d) (some .int) cd_Model_settle 2 ([some (.ref 163), some (.int (nI n)), L2, L3], [], S) u := by
  have M1 := hM.putA 21 (by decide) (upd (a 21) n (vA.2.2.2.1 ||| vB.2.2.2.1))
  have F1 : mfr S (pm_put S (164 + 21) (.inl (0, msz 21, .inl (upd (a 21) n (vA.2.2.2.1 ||| vB.2.2.2.1))))) := mfr.put (by decide)
  have Q1 : sq_fr a (va_up a 21 (upd (a 21) n (vA.2.2.2.1 ||| vB.2.2.2.1))) n := sq_up21
  have hA1 := Q1.nd hA hvA
  have hB1 := Q1.nd hB hvB
  have c0 : (va_up a 21 (upd (a 21) n (vA.2.2.2.1 ||| vB.2.2.2.1))) 0 = a 0 := rfl
  have c18 : (va_up a 21 (upd (a 21) n (vA.2.2.2.1 ||| vB.2.2.2.1))) 18 = a 18 := rfl
  have c19 : (va_up a 21 (upd (a 21) n (vA.2.2.2.1 ||| vB.2.2.2.1))) 19 = a 19 := rfl
  obtain ⟨S', a', h1, h2, h3, h4, h5, h6, h7⟩ := r_Model_settleQuestion (X := X) hP hd M1 (vcg_ok c0 hN) (fun m hm hk => by rw [vcg_kin c0] at hk; exact hq m hm hk) hn hA hB (show (va_up a 21 _) 10 n = _ from eA) (show (va_up a 21 _) 11 n = _ from eB) hA1.1 hB1.1
  have es : v_sum i (va_up a 21 (upd (a 21) n (vA.2.2.2.1 ||| vB.2.2.2.1))) N = v_sum i a N := by
    funext n c s ins n' c' s' ins'; unfold v_sum; rw [vcg_vot c0 c18 c19]
  have e21 : (va_up a 21 (upd (a 21) n (vA.2.2.2.1 ||| vB.2.2.2.1))) 21 n = vA.2.2.2.1 ||| vB.2.2.2.1 := by
    show upd (a 21) n _ n = _; simp [upd]
  rw [es] at h5 h6 h7
  rw [vcg_std c0 c18 c19, e21] at h7
  refine ⟨S', a', h2, F1.trans h3, Q1.trans h4, ⟨h7, fun _ => ⟨h5, h6⟩⟩, fun u L2 L3 h15 => ?_⟩
  refine pm_to.blk rfl ?_
  refine pe_aload rfl ?_
  refine pe_getf hM.o rfl rfl ?_
  refine pe_iload rfl ?_
  refine pe_ialdN (hM.a 9 (by decide)) rfl hn (by decide) ?_
  refine pe_if_ne (tgt := 7) (nx := 3) rfl rfl (fun hc2 => ?_) (fun hc2 => ?_)
  · have iA : a 21 A = vA.2.2.2.1 := hvA.1.2.2.2.2.2.2
    have iB : a 21 B = vB.2.2.2.1 := hvB.1.2.2.2.2.2.2
    refine pm_to.blk rfl ?_
    refine pe_aload rfl ?_
    refine pe_getf hM.o rfl rfl ?_
    refine pe_iload rfl ?_
    refine pe_aload rfl ?_
    refine pe_getf hM.o rfl rfl ?_
    refine pe_aload rfl ?_
    refine pe_getf hM.o rfl rfl ?_
    refine pe_iload rfl ?_
    refine pe_ialdN (hM.a 10 (by decide)) rfl hn (by decide) ?_
    refine pe_ialdN (hM.a 21 (by decide)) eA (by show A < 110; omega) (by decide) ?_
    refine pe_aload rfl ?_
    refine pe_getf hM.o rfl rfl ?_
    refine pe_aload rfl ?_
    refine pe_getf hM.o rfl rfl ?_
    refine pe_iload rfl ?_
    refine pe_ialdN (hM.a 11 (by decide)) rfl hn (by decide) ?_
    refine pe_ialdN (hM.a 21 (by decide)) eB (by show B < 110; omega) (by decide) ?_
    refine pe_ior ?_
    refine pe_iastN (hM.a 21 (by decide)) rfl hn (by decide) ?_
    refine pe_aload rfl ?_
    refine pe_getf (by rw [iA, iB]; exact M1.o) rfl rfl ?_
    refine pe_iload rfl ?_
    refine pe_ialdN (by rw [iA, iB]; exact M1.a 9 (by decide)) rfl hn (by decide) ?_
    refine pe_iconst (v := 1) rfl ?_
    refine pe_icmp_ne (tgt := 9) (nx := 8) rfl rfl (fun hc7 => ?_) (fun hc7 => ?_)
    · exact absurd e9 hc7
    · rw [iA, iB]
      refine pm_to.blk rfl ?_
      refine pe_aload rfl ?_
      refine pe_iload rfl ?_
      refine pe_virt rfl rfl (M1.o ) rfl ( h1) ?_
      refine pe_goto (tgt := 15) rfl ?_
      exact h15 _ _
  · rw [e9] at hc2
    exact absurd (by decide) hc2
/-- one node of the loop, a choice -/
theorem s_choice (hP : pm_np PR) {d : Nat} (hd : 7 ≤ d) (hM : MR S i a r bt) (hN : v_ok i a N) {n A B x y : Nat} (hn : n < 110) (hA : A < n) (hB : B < n) (e9 : a 9 n = 2) (eA : a 10 n = nI A) (eB : a 11 n = nI B) (e12 : a 12 n = nI x) (e13 : a 13 n = nI y) (hx : x < 7) (hy : y < 7) {vA vB : NV} {t : TR} (hvA : nd_all a t A vA) (hvB : nd_all a t B vB) (ht : (t n).1 = 2) :
    ∃ (S' : pm_S) (a' : Nat → Nat → Int32), MR S' i a' r bt ∧ mfr S S' ∧ sq_fr a a' n ∧ nd_all a' t n (nv_c i a N x y vA vB) ∧
      ∀ (u : pm_T) (L2 L3 : Option Value), (∀ L2 L3 : Option Value, pm_to X pm_Ms (pm_run X pm_Ms PR d) (some .int) cd_Model_settle 15 ([some (.ref 163), some (.int (nI n)), L2, L3], [], S') u) → pm_to X pm_Ms (pm_run X pm_Ms PR d) (some .int) cd_Model_settle 2 ([some (.ref 163), some (.int (nI n)), L2, L3], [], S) u := by
  have iA : a 21 A = vA.2.2.2.1 := hvA.1.2.2.2.2.2.2
  have iB : a 21 B = vB.2.2.2.1 := hvB.1.2.2.2.2.2.2
  generalize hIN : vA.2.2.2.1 ||| vB.2.2.2.1 = IN
  -- the part that is taken
  obtain ⟨P, vP, hPn, hvP, hPdef, hcv⟩ : ∃ (P : Nat) (vP : NV), P < n ∧ nd_all a t P vP ∧ P = (if v_bts i a N x y then A else B) ∧ nv_c i a N x y vA vB = (vP.1, vP.2.1, vP.2.2.1, IN, 0, 0) := by
    unfold nv_c
    by_cases hb : v_bts i a N x y
    · exact ⟨A, vA, hA, hvA, by rw [if_pos hb], by rw [if_pos hb, hIN]⟩
    · exact ⟨B, vB, hB, hvB, by rw [if_neg hb], by rw [if_neg hb, hIN]⟩
  rw [hcv]
  obtain ⟨⟨p1, p2, p3, p4, p5, p6, p7⟩, -⟩ := hvP
  have M1 := hM.putA 21 (by decide) (upd (a 21) n IN)
  have M2 := M1.putA 20 (by decide) (upd (a 20) n (nI vP.1))
  have M3 := M2.putA 22 (by decide) (upd (a 22) n (nI vP.2.1))
  have F3 := (((mfr.rf S).trans (mfr.put (c := 164 + 21) (e := .inl (0, msz 21, .inl (upd (a 21) n IN))) (by decide))).trans (mfr.put (c := 164 + 20) (e := .inl (0, msz 20, .inl (upd (a 20) n (nI vP.1)))) (by decide))).trans (mfr.put (c := 164 + 22) (e := .inl (0, msz 22, .inl (upd (a 22) n (nI vP.2.1)))) (by decide))
  have c0 : (va_up a 21 (upd (a 21) n IN)) 0 = a 0 := rfl
  have hbt := r_Model_beats (X := X) hP (d := d) (by omega) M1 (vcg_ok c0 hN) hx hy
  have ebt : v_bts i (va_up a 21 (upd (a 21) n IN)) N x y ↔ v_bts i a N x y := by
    unfold v_bts
    rw [vcg_mar (i := i) (N := N) c0 (show (va_up a 21 (upd (a 21) n IN)) 18 = a 18 from rfl) (show (va_up a 21 (upd (a 21) n IN)) 19 = a 19 from rfl), c0]
  generalize hb : va_up (va_up (va_up a 21 (upd (a 21) n IN)) 20 (upd (a 20) n (nI vP.1))) 22 (upd (a 22) n (nI vP.2.1)) = b at M3
  have b20 : b 20 = upd (a 20) n (nI vP.1) := by rw [← hb]; rfl
  have b21 : b 21 = upd (a 21) n IN := by rw [← hb]; rfl
  have b22 : b 22 = upd (a 22) n (nI vP.2.1) := by rw [← hb]; rfl
  have b23 : b 23 = a 23 := by rw [← hb]; rfl
  have bo : ∀ k, ¬ (20 ≤ k ∧ k ≤ 22) → b k = a k := by
    intro k hk
    rw [← hb]
    simp only [va_up]
    rw [if_neg (by omega), if_neg (by omega), if_neg (by omega)]
  have loop : ∀ (k e : Nat) (T : pm_S) (g : Nat → Int32), e + k = 6 → MR T i (va_up b 23 g) r bt → mfr S T → (∀ q, q < e → g (6 * n + q) = nI (vP.2.2.1 q)) → (∀ j, (j < 6 * n ∨ 6 * n + 6 ≤ j) → g j = a 23 j) →
      ∃ (S' : pm_S) (a' : Nat → Nat → Int32), MR S' i a' r bt ∧ mfr S S' ∧ sq_fr a a' n ∧ nd_all a' t n (vP.1, vP.2.1, vP.2.2.1, IN, 0, 0) ∧
      ∀ (u : pm_T), (∀ L2 L3 : Option Value, pm_to X pm_Ms (pm_run X pm_Ms PR d) (some .int) cd_Model_settle 15 ([some (.ref 163), some (.int (nI n)), L2, L3], [], S') u) → pm_to X pm_Ms (pm_run X pm_Ms PR d) (some .int) cd_Model_settle 13 ([some (.ref 163), some (.int (nI n)), some (.int (nI P)), some (.int (nI e))], [], T) u := by
    intro k
    induction k with
    | zero =>
      intro e T g he MT FT hg1 hg2
      have e6 : e = 6 := by omega
      subst e6
      refine ⟨T, va_up b 23 g, MT, FT, ⟨?_, ?_, ?_⟩, ⟨⟨hn, ?_, p3, ?_, p5, fun q hq => ⟨hg1 q hq, (p6 q hq).2⟩, ?_⟩, fun h => by omega⟩, ?_⟩
      · intro k hk
        show va_up b 23 g k = a k
        simp only [va_up]
        rw [if_neg (by omega)]
        exact bo k (by omega)
      · intro k j hj hk
        show va_up b 23 g k j = a k j
        simp only [va_up]
        rw [if_neg hk]
        by_cases h20 : 20 ≤ k ∧ k ≤ 22
        · rcases (show k = 20 ∨ k = 21 ∨ k = 22 by omega) with rfl | rfl | rfl
          · rw [b20]; simp [upd, hj]
          · rw [b21]; simp [upd, hj]
          · rw [b22]; simp [upd, hj]
        · rw [bo k h20]
      · intro j hj
        exact hg2 j hj
      · show b 20 n = nI vP.1
        rw [b20]; simp [upd]
      · show b 22 n = nI vP.2.1
        rw [b22]; simp [upd]
      · show b 21 n = _
        rw [b21]; simp [upd]
      · intro u h15
        refine pm_to.blk rfl ?_
        refine pe_iload rfl ?_
        refine pe_iconst (v := 6) rfl ?_
        refine pe_icmp_ge (tgt := 15) (nx := 14) rfl rfl (fun hc13 => ?_) (fun hc13 => ?_)
        · exact h15 _ _
        · exact absurd (show (6 : Int32) ≤ nI 6 by decide) hc13
    | succ k ih =>
      intro e T g he MT FT hg1 hg2
      have ix : ∀ Z : Nat, nI 6 * nI Z + nI e = nI (6 * Z + e) := fun Z => by rw [pk_mul, nI_add]
      have gP : g (6 * P + e) = nI (vP.2.2.1 e) := by rw [hg2 _ (by omega)]; exact (p6 e (by omega)).1
      have M5 := MT.putA 23 (by decide) (upd g (6 * n + e) (nI (vP.2.2.1 e)))
      have eU : va_up (va_up b 23 g) 23 (upd g (6 * n + e) (nI (vP.2.2.1 e))) = va_up b 23 (upd g (6 * n + e) (nI (vP.2.2.1 e))) := bx_uu _ _ _ _
      rw [eU] at M5
      obtain ⟨S', a', h1, h2, h3, h4, h5⟩ := ih (e + 1) _ _ (by omega) M5 (FT.trans (mfr.put (by decide))) (fun q hq => by
        by_cases hqe : q = e
        · subst hqe; rw [pk_us]
        · rw [pk_un (by omega)]; exact hg1 q (by omega)) (fun j hj => by rw [pk_un (by omega)]; exact hg2 j hj)
      refine ⟨S', a', h1, h2, h3, h4, fun u h15 => ?_⟩
      refine pm_to.blk rfl ?_
      refine pe_iload rfl ?_
      refine pe_iconst (v := 6) rfl ?_
      refine pe_icmp_ge (tgt := 15) (nx := 14) rfl rfl (fun hc13 => ?_) (fun hc13 => ?_)
      · exact absurd hc13 (nI_ge (a := e) (b := 6) (by omega) (by decide))
      · refine pm_to.blk rfl ?_
        refine pe_aload rfl ?_
        refine pe_getf MT.o rfl rfl ?_
        refine pe_iconst (v := 6) rfl ?_
        refine pe_iload rfl ?_
        refine pe_imul ?_
        refine pe_iload rfl ?_
        refine pe_iadd ?_
        refine pe_aload rfl ?_
        refine pe_getf MT.o rfl rfl ?_
        refine pe_iconst (v := 6) rfl ?_
        refine pe_iload rfl ?_
        refine pe_imul ?_
        refine pe_iload rfl ?_
        refine pe_iadd ?_
        refine pe_ialdN (MT.a 23 (by decide)) (ix P) (by show 6 * P + e < 660; omega) (by decide) ?_
        refine pe_iastN (MT.a 23 (by decide)) (ix n) (by show 6 * n + e < 660; omega) (by decide) ?_
        refine pe_iinc (L' := [_, _, _, _]) rfl ((nI_succ e).symm) rfl ?_
        refine pe_goto (tgt := 13) rfl ?_
        rw [show (va_up b 23 g) 23 (6 * P + e) = nI (vP.2.2.1 e) from gP]
        exact h5 u h15
  obtain ⟨S', a', h1, h2, h3, h4, h5⟩ := loop 6 0 _ (a 23) (by omega) (by have : va_up b 23 (a 23) = b := by { funext k; simp only [va_up]; split; (· rename_i h; rw [h, b23]); rfl }; rw [this]; exact M3) F3 (fun q hq => by omega) (fun j _ => rfl)
  refine ⟨S', a', h1, h2, h3, h4, fun u L2 L3 h15 => ?_⟩
  have t12 : ∀ L2 L3 : Option Value, pm_to X pm_Ms (pm_run X pm_Ms PR d) (some .int) cd_Model_settle 12 ([some (.ref 163), some (.int (nI n)), L2, L3], [.int (nI P)], pm_put S 185 (.inl (0, msz 21, .inl (upd (a 21) n IN)))) u := by
    intro L2 L3
    have q2 : (va_up a 21 (upd (a 21) n IN)) 20 P = nI vP.1 := p2
    have q4 : (va_up (va_up a 21 (upd (a 21) n IN)) 20 (upd (a 20) n (nI vP.1))) 22 P = nI vP.2.1 := p4
    refine pm_to.blk rfl ?_
    refine pe_istore (L' := [_, _, _, _]) rfl ?_
    refine pe_aload rfl ?_
    refine pe_getf M1.o rfl rfl ?_
    refine pe_iload rfl ?_
    refine pe_aload rfl ?_
    refine pe_getf M1.o rfl rfl ?_
    refine pe_iload rfl ?_
    refine pe_ialdN (M1.a 20 (by decide)) rfl (by show P < 110; omega) (by decide) ?_
    refine pe_iastN (M1.a 20 (by decide)) rfl hn (by decide) ?_
    refine pe_aload rfl ?_
    refine pe_getf (by rw [q2]; exact M2.o) rfl rfl ?_
    refine pe_iload rfl ?_
    refine pe_aload rfl ?_
    refine pe_getf (by rw [q2]; exact M2.o) rfl rfl ?_
    refine pe_iload rfl ?_
    refine pe_ialdN (by rw [q2]; exact M2.a 22 (by decide)) rfl (by show P < 110; omega) (by decide) ?_
    refine pe_iastN (by rw [q2]; exact M2.a 22 (by decide)) rfl hn (by decide) ?_
    refine pe_iconst (v := 0) rfl ?_
    refine pe_istore (L' := [_, _, _, _]) rfl ?_
    refine pe_nil (nx := 13) rfl ?_
    rw [q2, q4]
    exact h5 u h15
  refine pm_to.blk rfl ?_
  refine pe_aload rfl ?_
  refine pe_getf hM.o rfl rfl ?_
  refine pe_iload rfl ?_
  refine pe_ialdN (hM.a 9 (by decide)) rfl hn (by decide) ?_
  refine pe_if_ne (tgt := 7) (nx := 3) rfl rfl (fun hc2 => ?_) (fun hc2 => ?_)
  · refine pm_to.blk rfl ?_
    refine pe_aload rfl ?_
    refine pe_getf hM.o rfl rfl ?_
    refine pe_iload rfl ?_
    refine pe_aload rfl ?_
    refine pe_getf hM.o rfl rfl ?_
    refine pe_aload rfl ?_
    refine pe_getf hM.o rfl rfl ?_
    refine pe_iload rfl ?_
    refine pe_ialdN (hM.a 10 (by decide)) rfl hn (by decide) ?_
    refine pe_ialdN (hM.a 21 (by decide)) eA (by show A < 110; omega) (by decide) ?_
    refine pe_aload rfl ?_
    refine pe_getf hM.o rfl rfl ?_
    refine pe_aload rfl ?_
    refine pe_getf hM.o rfl rfl ?_
    refine pe_iload rfl ?_
    refine pe_ialdN (hM.a 11 (by decide)) rfl hn (by decide) ?_
    refine pe_ialdN (hM.a 21 (by decide)) eB (by show B < 110; omega) (by decide) ?_
    refine pe_ior ?_
    refine pe_iastN (hM.a 21 (by decide)) rfl hn (by decide) ?_
    refine pe_aload rfl ?_
    refine pe_getf (by rw [iA, iB, hIN]; exact M1.o) rfl rfl ?_
    refine pe_iload rfl ?_
    refine pe_ialdN (by rw [iA, iB, hIN]; exact M1.a 9 (by decide)) rfl hn (by decide) ?_
    refine pe_iconst (v := 1) rfl ?_
    refine pe_icmp_ne (tgt := 9) (nx := 8) rfl rfl (fun hc7 => ?_) (fun hc7 => ?_)
    · rw [iA, iB, hIN]
      refine pm_to.blk rfl ?_
      refine pe_aload rfl ?_
      refine pe_aload rfl ?_
      refine pe_getf M1.o rfl rfl ?_
      refine pe_iload rfl ?_
      refine pe_ialdN (M1.a 12 (by decide)) rfl hn (by decide) ?_
      refine pe_aload rfl ?_
      refine pe_getf M1.o rfl rfl ?_
      refine pe_iload rfl ?_
      refine pe_ialdN (M1.a 13 (by decide)) rfl hn (by decide) ?_
      refine pe_virt rfl rfl (M1.o ) rfl ( by rw [show (va_up a 21 (upd (a 21) n IN)) 12 n = nI x from e12, show (va_up a 21 (upd (a 21) n IN)) 13 n = nI y from e13]; exact hbt) ?_
      refine pe_if_eq (tgt := 11) (nx := 10) rfl rfl (fun hc9 => ?_) (fun hc9 => ?_)
      · have hnb : ¬ v_bts i a N x y := fun z => by rw [bI_t (ebt.mpr z)] at hc9; exact absurd hc9 (by decide)
        refine pm_to.blk rfl ?_
        refine pe_aload rfl ?_
        refine pe_getf M1.o rfl rfl ?_
        refine pe_iload rfl ?_
        refine pe_ialdN (M1.a 11 (by decide)) rfl hn (by decide) ?_
        refine pe_nil (nx := 12) rfl ?_
        rw [show (va_up a 21 (upd (a 21) n IN)) 11 n = nI P from by rw [hPdef, if_neg hnb]; exact eB]
        exact t12 _ _
      · have hyb : v_bts i a N x y := ebt.mp (bI_ne.mp hc9)
        refine pm_to.blk rfl ?_
        refine pe_aload rfl ?_
        refine pe_getf M1.o rfl rfl ?_
        refine pe_iload rfl ?_
        refine pe_ialdN (M1.a 10 (by decide)) rfl hn (by decide) ?_
        refine pe_goto (tgt := 12) rfl ?_
        rw [show (va_up a 21 (upd (a 21) n IN)) 10 n = nI P from by rw [hPdef, if_pos hyb]; exact eA]
        exact t12 _ _
    · have e9' : (va_up a 21 (upd (a 21) n (a 21 A ||| a 21 B))) 9 n = 2 := e9
      exact absurd (show (2 : Int32) = 1 from by rw [← e9]; exact Decidable.not_not.mp hc7) (by decide)
  · rw [e9] at hc2
    exact absurd (by decide) hc2
/-- all nodes -/
theorem r_Model_settle (hP : pm_np PR) {d : Nat} (hd : 8 ≤ d) (hM : MR S i a r bt) (hN : v_ok i a N) (hq : ∀ m, m < N → v_kin i a m = 2 → ∃ q, q < 6 ∧ a 0 (30 + m) = nI q) {K : Nat} {t : TR} (hK0 : 0 < K) (hK : K ≤ 110) (hi : i 15 = nI K) (ht : tr_ok t K) (hat : tr_at a t K) :
    ∃ (S' : pm_S) (a' : Nat → Nat → Int32), pm_run X pm_Ms PR d 201 [.ref 163] S = some (some (.int (nI (nval i a N t (K - 1)).2.1)), S') ∧ MR S' i a' r bt ∧ mfr S S' ∧ (∀ k, ¬ (20 ≤ k ∧ k ≤ 25) → a' k = a k) ∧ ∀ n, n < K → nd_all a' t n (nval i a N t n) := by
  have main : ∀ (k n : Nat) (T : pm_S) (b : Nat → Nat → Int32), n + k = K → MR T i b r bt → mfr S T → (∀ k, ¬ (20 ≤ k ∧ k ≤ 25) → b k = a k) → (∀ j, j < n → nd_all b t j (nval i a N t j)) →
      ∃ (S' : pm_S) (a' : Nat → Nat → Int32), (∀ L2 L3 : Option Value, pm_to X pm_Ms (pm_run X pm_Ms PR (d - 1)) (some .int) cd_Model_settle 1 ([some (.ref 163), some (.int (nI n)), L2, L3], [], T) (some (.int (nI (nval i a N t (K - 1)).2.1)), S')) ∧ MR S' i a' r bt ∧ mfr S S' ∧ (∀ k, ¬ (20 ≤ k ∧ k ≤ 25) → a' k = a k) ∧ ∀ n, n < K → nd_all a' t n (nval i a N t n) := by
    intro k
    induction k with
    | zero =>
      intro n T b hn MT FT hb hj
      have e : n = K := by omega
      subst e
      have ec : b 22 (n - 1) = nI (nval i a N t (n - 1)).2.1 := (hj (n - 1) (by omega)).1.2.2.2.1
      refine ⟨T, b, fun L2 L3 => ?_, MT, FT, hb, hj⟩
      refine pm_to.blk rfl ?_
      refine pe_iload rfl ?_
      refine pe_aload rfl ?_
      refine pe_getf MT.o rfl rfl ?_
      refine pe_icmp_ge (tgt := 16) (nx := 2) rfl rfl (fun hc1 => ?_) (fun hc1 => ?_)
      · have ix : i 15 - 1 = nI (n - 1) := by rw [hi]; exact pk_sub (a := n) (b := 1) (by omega)
        rw [← ec]
        refine pm_to.blk rfl ?_
        refine pe_aload rfl ?_
        refine pe_getf MT.o rfl rfl ?_
        refine pe_aload rfl ?_
        refine pe_getf MT.o rfl rfl ?_
        refine pe_iconst (v := 1) rfl ?_
        refine pe_isub ?_
        refine pe_ialdN (MT.a 22 (by decide)) ix (by show n - 1 < 110; omega) (by decide) ?_
        exact pe_iret rfl rfl
      · exact absurd (by rw [hi]; exact nI_le (Nat.le_refl _) (by omega)) hc1
    | succ k ih =>
      intro n T b hn MT FT hb hj
      have b0 := hb 0 (by omega)
      have b18 := hb 18 (by omega)
      have b19 := hb 19 (by omega)
      have hnK : n < K := by omega
      obtain ⟨t1, t2, t3, t4⟩ := ht n hnK
      obtain ⟨u1, u2, u3, u4⟩ := hat n hnK
      rw [← hb 9 (by omega)] at u1
      rw [← hb 10 (by omega), ← hb 11 (by omega)] at u2
      rw [← hb 12 (by omega)] at u3
      rw [← hb 13 (by omega)] at u4
      have node : ∃ (S' : pm_S) (a' : Nat → Nat → Int32), MR S' i a' r bt ∧ mfr T S' ∧ sq_fr b a' n ∧ nd_all a' t n (nval i a N t n) ∧ ∀ (u : pm_T) (L2 L3 : Option Value), (∀ L2 L3 : Option Value, pm_to X pm_Ms (pm_run X pm_Ms PR (d - 1)) (some .int) cd_Model_settle 15 ([some (.ref 163), some (.int (nI n)), L2, L3], [], S') u) → pm_to X pm_Ms (pm_run X pm_Ms PR (d - 1)) (some .int) cd_Model_settle 2 ([some (.ref 163), some (.int (nI n)), L2, L3], [], T) u := by
        by_cases h0 : (t n).1 = 0
        · obtain ⟨S', a', g1, g2, g3, g4, g5⟩ := s_leaf (X := X) (PR := PR) (d := d - 1) MT (n := n) (x := (t n).2.2.2.1) (by omega) (t2 h0) (by rw [u1, h0]; rfl) (u3 trivial)
          exact ⟨S', a', g1, g2, g3, ⟨by rw [nval_0 h0]; exact g4, fun h => by omega⟩, g5⟩
        · obtain ⟨l1, l2⟩ := t3 h0
          by_cases h1 : (t n).1 = 1
          · obtain ⟨S', a', g1, g2, g3, g4, g5⟩ := s_quest (X := X) hP (d := d - 1) (by omega) MT (vcg_ok b0 hN) (fun m hm hk => by rw [vcg_kin b0] at hk; rw [b0]; exact hq m hm hk) (n := n) (by omega) l1 l2 (by rw [u1, h1]; rfl) (u2 h0).1 (u2 h0).2 (hj _ l1) (hj _ l2) h1
            refine ⟨S', a', g1, g2, g3, ?_, g5⟩
            have e1 : nv_q i b N = nv_q i a N := by
              funext A B
              unfold nv_q v_sum
              rw [vcg_vot b0 b18 b19, vcg_std b0 b18 b19, b0]
            rw [nval_1 ht hnK h1, ← e1]
            exact g4
          · have h2 : (t n).1 = 2 := by omega
            obtain ⟨S', a', g1, g2, g3, g4, g5⟩ := s_choice (X := X) hP (d := d - 1) (by omega) MT (vcg_ok b0 hN) (n := n) (by omega) l1 l2 (by rw [u1, h2]; rfl) (u2 h0).1 (u2 h0).2 (u3 trivial) (u4 h2) (t4 h2).1 (t4 h2).2 (hj _ l1) (hj _ l2) h2
            refine ⟨S', a', g1, g2, g3, ?_, g5⟩
            have e1 : nv_c i b N = nv_c i a N := by
              funext x y A B
              unfold nv_c v_bts
              rw [vcg_mar b0 b18 b19, b0]
            rw [nval_2 ht hnK h2, ← e1]
            exact g4
      obtain ⟨T', b', g1, g2, g3, g4, g5⟩ := node
      obtain ⟨S', a', h1, h2⟩ := ih (n + 1) T' b' (by omega) g1 (FT.trans g2) (fun k hk => (g3.1 k hk).trans (hb k hk)) (fun j hjn => by
        by_cases hjj : j = n
        · subst hjj; exact g4
        · exact g3.nd (by omega) (hj j (by omega)))
      refine ⟨S', a', fun L2 L3 => ?_, h2⟩
      refine pm_to.blk rfl ?_
      refine pe_iload rfl ?_
      refine pe_aload rfl ?_
      refine pe_getf MT.o rfl rfl ?_
      refine pe_icmp_ge (tgt := 16) (nx := 2) rfl rfl (fun hc1 => ?_) (fun hc1 => ?_)
      · rw [hi] at hc1
        exact absurd hc1 (nI_ge hnK (by omega))
      · refine g5 _ _ _ (fun L2 L3 => ?_)
        refine pm_to.blk rfl ?_
        refine pe_iinc (L' := [_, _, _, _]) rfl ((nI_succ n).symm) rfl ?_
        refine pe_goto (tgt := 1) rfl ?_
        exact h1 _ _
  obtain ⟨S', a', h1, h2⟩ := main K 0 S a (by omega) hM (mfr.rf S) (fun _ _ => rfl) (fun j hj => by omega)
  refine ⟨S', a', ?_, h2⟩
  refine pm_run_of (L := [_, _, _, _]) (by omega) (hP _ rfl) ms_Model_settle rfl ?_
  show pm_to _ _ _ (some .int) cd_Model_settle 0 _ _
  refine pm_to.blk rfl ?_
  refine pe_iconst (v := 0) rfl ?_
  refine pe_istore (L' := [_, _, _, _]) rfl ?_
  refine pe_nil (nx := 1) rfl ?_
  exact h1 _ _
end
