/-! the reference: a tree is loaded; the end of a tree -/
/-- tree number tt is t, of K nodes -/
def tr_in (a : Nat → Nat → Int32) (tt : Nat) (t : TR) (K : Nat) : Prop := a 2 tt = nI K ∧ 0 < K ∧ K ≤ 100 ∧ tr_ok t K ∧ ∀ n, n < K → a 4 (100 * tt + n) = nI (t n).1 ∧ (¬ (t n).1 = 0 → a 5 (100 * tt + n) = nI (t n).2.1 ∧ a 6 (100 * tt + n) = nI (t n).2.2.1) ∧ (True → a 7 (100 * tt + n) = nI (t n).2.2.2.1) ∧ ((t n).1 = 2 → a 8 (100 * tt + n) = nI (t n).2.2.2.2)
section
variable {X : pm_X} {PR : pm_P} {S : pm_S} {i : Nat → Int32} {a : Nat → Nat → Int32} {r bt : Nat → Int64} {N : Nat}
theorem r_Model_load (hP : pm_np PR) {d : Nat} (hd : 1 ≤ d) (hM : MR S i a r bt) {tt K : Nat} (htt : tt < 12) (eK : a 2 tt = nI K) (hK : K ≤ 100) :
    ∃ (S' : pm_S) (a' : Nat → Nat → Int32), pm_run X pm_Ms PR d 200 [.ref 163, .int (nI tt)] S = some (none, S') ∧ MR S' (upd i 15 (nI K)) a' r bt ∧ mfr S S' ∧ (∀ k, ¬ (9 ≤ k ∧ k ≤ 13) → a' k = a k) ∧ ∀ n, n < K → a' 9 n = a 4 (100 * tt + n) ∧ a' 10 n = a 5 (100 * tt + n) ∧ a' 11 n = a 6 (100 * tt + n) ∧ a' 12 n = a 7 (100 * tt + n) ∧ a' 13 n = a 8 (100 * tt + n) := by
  have i15 : (upd i 15 (nI K)) 15 = nI K := by simp [upd]
  have loop : ∀ (k n : Nat) (T : pm_S) (b : Nat → Nat → Int32), n + k = K → MR T (upd i 15 (nI K)) b r bt → mfr S T → (∀ k, ¬ (9 ≤ k ∧ k ≤ 13) → b k = a k) → (∀ j, j < n → b 9 j = a 4 (100 * tt + j) ∧ b 10 j = a 5 (100 * tt + j) ∧ b 11 j = a 6 (100 * tt + j) ∧ b 12 j = a 7 (100 * tt + j) ∧ b 13 j = a 8 (100 * tt + j)) →
      ∃ (S' : pm_S) (a' : Nat → Nat → Int32), pm_to X pm_Ms (pm_run X pm_Ms PR (d - 1)) none cd_Model_load 1 ([some (.ref 163), some (.int (nI tt)), some (.int (nI n))], [], T) (none, S') ∧ MR S' (upd i 15 (nI K)) a' r bt ∧ mfr S S' ∧ (∀ k, ¬ (9 ≤ k ∧ k ≤ 13) → a' k = a k) ∧ ∀ n, n < K → a' 9 n = a 4 (100 * tt + n) ∧ a' 10 n = a 5 (100 * tt + n) ∧ a' 11 n = a 6 (100 * tt + n) ∧ a' 12 n = a 7 (100 * tt + n) ∧ a' 13 n = a 8 (100 * tt + n) := by
    intro k
    induction k with
    | zero =>
      intro n T b hn MT FT hb hj
      have e : n = K := by omega
      subst e
      refine ⟨T, b, ?_, MT, FT, hb, hj⟩
      refine pm_to.blk rfl ?_
      refine pe_iload rfl ?_
      refine pe_aload rfl ?_
      refine pe_getf MT.o rfl rfl ?_
      refine pe_icmp_ge (tgt := 3) (nx := 2) rfl rfl (fun hc1 => ?_) (fun hc1 => ?_)
      · refine pm_to.blk rfl ?_
        exact pe_ret rfl rfl
      · exact absurd (by rw [show (upd i 15 (nI n)) 15 = nI n from i15]; exact nI_le (Nat.le_refl _) (by omega)) hc1
    | succ k ih =>
      intro n T b hn MT FT hb hj
      have ix : nI 100 * nI tt + nI n = nI (100 * tt + n) := by rw [pk_mul, nI_add]
      have hin : 100 * tt + n < 1200 := by omega
      have hn110 : n < 110 := by omega
      have N1 := MT.putA 9 (by decide) (upd (b 9) n (b 4 (100 * tt + n)))
      have N2 := N1.putA 10 (by decide) (upd (b 10) n (b 5 (100 * tt + n)))
      have N3 := N2.putA 11 (by decide) (upd (b 11) n (b 6 (100 * tt + n)))
      have N4 := N3.putA 12 (by decide) (upd (b 12) n (b 7 (100 * tt + n)))
      have N5 := N4.putA 13 (by decide) (upd (b 13) n (b 8 (100 * tt + n)))
      have F5 := ((((FT.trans (mfr.put (c := 164 + 9) (e := .inl (0, msz 9, .inl (upd (b 9) n (b 4 (100 * tt + n))))) (by decide))).trans (mfr.put (c := 164 + 10) (e := .inl (0, msz 10, .inl (upd (b 10) n (b 5 (100 * tt + n))))) (by decide))).trans (mfr.put (c := 164 + 11) (e := .inl (0, msz 11, .inl (upd (b 11) n (b 6 (100 * tt + n))))) (by decide))).trans (mfr.put (c := 164 + 12) (e := .inl (0, msz 12, .inl (upd (b 12) n (b 7 (100 * tt + n))))) (by decide))).trans (mfr.put (c := 164 + 13) (e := .inl (0, msz 13, .inl (upd (b 13) n (b 8 (100 * tt + n))))) (by decide))
      obtain ⟨S', a', h1, h2⟩ := ih (n + 1) _ _ (by omega) N5 F5 (fun k hk => by
        simp only [va_up]
        rw [if_neg (by omega), if_neg (by omega), if_neg (by omega), if_neg (by omega), if_neg (by omega)]
        exact hb k hk) (fun j hjn => by
        show upd (b 9) n _ j = _ ∧ upd (b 10) n _ j = _ ∧ upd (b 11) n _ j = _ ∧ upd (b 12) n _ j = _ ∧ upd (b 13) n _ j = _
        by_cases hjj : j = n
        · subst hjj
          rw [pk_us, pk_us, pk_us, pk_us, pk_us, hb 4 (by omega), hb 5 (by omega), hb 6 (by omega), hb 7 (by omega), hb 8 (by omega)]
          exact ⟨rfl, rfl, rfl, rfl, rfl⟩
        · rw [pk_un hjj, pk_un hjj, pk_un hjj, pk_un hjj, pk_un hjj]
          exact hj j (by omega))
      refine ⟨S', a', ?_, h2⟩
      refine pm_to.blk rfl ?_
      refine pe_iload rfl ?_
      refine pe_aload rfl ?_
      refine pe_getf MT.o rfl rfl ?_
      refine pe_icmp_ge (tgt := 3) (nx := 2) rfl rfl (fun hc1 => ?_) (fun hc1 => ?_)
      · exact absurd (show nI K ≤ nI n by rw [← i15]; exact hc1) (nI_ge (by omega) (by omega))
      · refine pm_to.blk rfl ?_
        refine pe_aload rfl ?_
        refine pe_getf MT.o rfl rfl ?_
        refine pe_iload rfl ?_
        refine pe_aload rfl ?_
        refine pe_getf MT.o rfl rfl ?_
        refine pe_iconst (v := 100) rfl ?_
        refine pe_iload rfl ?_
        refine pe_imul ?_
        refine pe_iload rfl ?_
        refine pe_iadd ?_
        refine pe_ialdN (MT.a 4 (by decide)) ix hin (by decide) ?_
        refine pe_iastN (MT.a 9 (by decide)) rfl hn110 (by decide) ?_
        refine pe_aload rfl ?_
        refine pe_getf N1.o rfl rfl ?_
        refine pe_iload rfl ?_
        refine pe_aload rfl ?_
        refine pe_getf N1.o rfl rfl ?_
        refine pe_iconst (v := 100) rfl ?_
        refine pe_iload rfl ?_
        refine pe_imul ?_
        refine pe_iload rfl ?_
        refine pe_iadd ?_
        refine pe_ialdN (N1.a 5 (by decide)) ix hin (by decide) ?_
        refine pe_iastN (N1.a 10 (by decide)) rfl hn110 (by decide) ?_
        refine pe_aload rfl ?_
        refine pe_getf N2.o rfl rfl ?_
        refine pe_iload rfl ?_
        refine pe_aload rfl ?_
        refine pe_getf N2.o rfl rfl ?_
        refine pe_iconst (v := 100) rfl ?_
        refine pe_iload rfl ?_
        refine pe_imul ?_
        refine pe_iload rfl ?_
        refine pe_iadd ?_
        refine pe_ialdN (N2.a 6 (by decide)) ix hin (by decide) ?_
        refine pe_iastN (N2.a 11 (by decide)) rfl hn110 (by decide) ?_
        refine pe_aload rfl ?_
        refine pe_getf N3.o rfl rfl ?_
        refine pe_iload rfl ?_
        refine pe_aload rfl ?_
        refine pe_getf N3.o rfl rfl ?_
        refine pe_iconst (v := 100) rfl ?_
        refine pe_iload rfl ?_
        refine pe_imul ?_
        refine pe_iload rfl ?_
        refine pe_iadd ?_
        refine pe_ialdN (N3.a 7 (by decide)) ix hin (by decide) ?_
        refine pe_iastN (N3.a 12 (by decide)) rfl hn110 (by decide) ?_
        refine pe_aload rfl ?_
        refine pe_getf N4.o rfl rfl ?_
        refine pe_iload rfl ?_
        refine pe_aload rfl ?_
        refine pe_getf N4.o rfl rfl ?_
        refine pe_iconst (v := 100) rfl ?_
        refine pe_iload rfl ?_
        refine pe_imul ?_
        refine pe_iload rfl ?_
        refine pe_iadd ?_
        refine pe_ialdN (N4.a 8 (by decide)) ix hin (by decide) ?_
        refine pe_iastN (N4.a 13 (by decide)) rfl hn110 (by decide) ?_
        refine pe_iinc (L' := [_, _, _]) rfl ((nI_succ n).symm) rfl ?_
        refine pe_goto (tgt := 1) rfl ?_
        exact h1
  have M1 := hM.putI (upd i 15 (nI K))
  obtain ⟨S', a', h1, h2⟩ := loop K 0 _ a (by omega) M1 (mfr.put (by decide)) (fun _ _ => rfl) (fun j hj => by omega)
  refine ⟨S', a', ?_, h2⟩
  refine pm_run_of (L := [_, _, _]) (by omega) (hP _ rfl) ms_Model_load rfl ?_
  show pm_to _ _ _ (none) cd_Model_load 0 _ _
  refine pm_to.blk rfl ?_
  refine pe_aload rfl ?_
  refine pe_aload rfl ?_
  refine pe_getf hM.o rfl rfl ?_
  refine pe_iload rfl ?_
  refine pe_ialdN (hM.a 2 (by decide)) rfl htt (by decide) ?_
  refine pe_putf (hM.o) rfl (of_decide_eq_true rfl) (rfl) (mo_set15 i _) ?_
  refine pe_iconst (v := 0) rfl ?_
  refine pe_istore (L' := [_, _, _]) rfl ?_
  refine pe_nil (nx := 1) rfl ?_
  rw [eK]
  exact h1
/-- the end of a tree -/
theorem r_Model_endOf (hP : pm_np PR) {d : Nat} (hd : 9 ≤ d) (hM : MR S i a r bt) (hN : v_ok i a N) (hq : ∀ m, m < N → v_kin i a m = 2 → ∃ q, q < 6 ∧ a 0 (30 + m) = nI q) {tt K : Nat} {t : TR} (htt : tt < 12) (ht : tr_in a tt t K) :
    ∃ (S' : pm_S) (a' : Nat → Nat → Int32), pm_run X pm_Ms PR d 199 [.ref 163, .int (nI tt)] S = some (some (.int (nI (nval i a N t (K - 1)).2.1)), S') ∧ MR S' (upd i 15 (nI K)) a' r bt ∧ mfr S S' ∧ (∀ k, ¬ (9 ≤ k ∧ k ≤ 13) → ¬ (20 ≤ k ∧ k ≤ 25) → a' k = a k) ∧ tr_at a' t K ∧ ∀ n, n < K → nd_all a' t n (nval i a N t n) := by
  obtain ⟨eK, hK0, hK, htr, hst⟩ := ht
  obtain ⟨S1, a1, l1, l2, l3, l4, l5⟩ := r_Model_load (X := X) hP (d := d - 1) (by omega) hM htt eK hK
  have c0 := l4 0 (by omega)
  have c18 := l4 18 (by omega)
  have c19 := l4 19 (by omega)
  -- the view doesn't depend on number 15
  have w1 : v_wis (upd i 15 (nI K)) a1 = v_wis i a := by rw [vcg_wis c0 c18 c19]; rfl
  have w2 : v_voi (upd i 15 (nI K)) a1 = v_voi i a := by rw [vcg_voi c0]; rfl
  have w3 : v_kin (upd i 15 (nI K)) a1 = v_kin i a := by rw [vcg_kin c0]; rfl
  have w4 : v_par (upd i 15 (nI K)) a1 = v_par i a := by rw [vcg_par c0]; rfl
  have w5 : v_end (upd i 15 (nI K)) a1 = v_end i a := by rw [vcg_end c0]; rfl
  have w6 : v_mem (upd i 15 (nI K)) a1 = v_mem i a := by rw [vcg_mem c0]; rfl
  have w7 : v_mar (upd i 15 (nI K)) a1 N = v_mar i a N := by funext x y; unfold v_mar; rw [w1, w2]
  have w8 : v_std (upd i 15 (nI K)) a1 N = v_std i a N := by funext x y; unfold v_std v_bts; rw [w7, c0]
  have w9 : v_vot (upd i 15 (nI K)) a1 N = v_vot i a N := by
    funext m n c s ins n' c' s' ins'; unfold v_vot v_psg; rw [w1, w2, w3, w4, w5, vcg_num c0]
  have w10 : nval (upd i 15 (nI K)) a1 N t = nval i a N t := by
    have eq1 : nv_q (upd i 15 (nI K)) a1 N = nv_q i a N := by funext A B; unfold nv_q v_sum; rw [w9, w8, c0]
    have eq2 : nv_c (upd i 15 (nI K)) a1 N = nv_c i a N := by funext x y A B; unfold nv_c v_bts; rw [w7, c0]
    have eq3 : ∀ f n, nvf (upd i 15 (nI K)) a1 N t f n = nvf i a N t f n := by
      intro f
      induction f with
      | zero => intro n; rfl
      | succ f ih => intro n; unfold nvf; rw [eq1, eq2, ih, ih]
    funext n
    exact eq3 (n + 1) n
  have hok : v_ok (upd i 15 (nI K)) a1 N := by
    obtain ⟨o1, o2, o3⟩ := hN
    exact ⟨by rw [w6]; exact o1, o2, o3⟩
  have hat : tr_at a1 t K := fun n hn => by
    obtain ⟨s1, s2, s3, s4⟩ := hst n hn
    obtain ⟨g1, g2, g3, g4, g5⟩ := l5 n hn
    exact ⟨by rw [g1]; exact s1, fun h => ⟨by rw [g2]; exact (s2 h).1, by rw [g3]; exact (s2 h).2⟩, fun h => by rw [g4]; exact s3 h, fun h => by rw [g5]; exact s4 h⟩
  obtain ⟨S2, a2, m1, m2, m3, m4, m5⟩ := r_Model_settle (X := X) hP (d := d - 1) (by omega) l2 hok (fun m hm hk => by rw [w3] at hk; rw [c0]; exact hq m hm hk) hK0 (by omega) (by simp [upd]) htr hat
  rw [w10] at m1 m5
  refine ⟨S2, a2, ?_, m2, l3.trans m3, fun k h1 h2 => (m4 k h2).trans (l4 k h1), fun n hn => ?_, m5⟩
  · 
    refine pm_run_of (L := [_, _]) (by omega) (hP _ rfl) ms_Model_endOf rfl ?_
    show pm_to _ _ _ (some .int) cd_Model_endOf 0 _ _
    refine pm_to.blk rfl ?_
    refine pe_aload rfl ?_
    refine pe_iload rfl ?_
    refine pe_virt rfl rfl (hM.o ) rfl ( l1) ?_
    refine pe_aload rfl ?_
    refine pe_virt rfl rfl (l2.o ) rfl ( m1) ?_
    exact pe_iret rfl rfl
  · obtain ⟨s1, s2, s3, s4⟩ := hat n hn
    exact ⟨by rw [m4 9 (by omega)]; exact s1, fun h => ⟨by rw [m4 10 (by omega)]; exact (s2 h).1, by rw [m4 11 (by omega)]; exact (s2 h).2⟩, fun h => by rw [m4 12 (by omega)]; exact s3 h, fun h => by rw [m4 13 (by omega)]; exact s4 h⟩
end
