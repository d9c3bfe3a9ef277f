/-! the reference: a question is settled -/
def sv (f : Nat → Int32) : Nat → Int32
  | 0 => 0
  | n + 1 => sv f n + f n
abbrev q_fst (sum ch : Int32) (x y : Nat) : Prop := 0 < sum ∨ (sum = 0 ∧ (x = y ∨ bI (x < y) = bI (ch = 0)))
/-- what of the arrays may have changed behind node n -/
def sq_fr (a a' : Nat → Nat → Int32) (n : Nat) : Prop := (∀ k, ¬ (20 ≤ k ∧ k ≤ 25) → a' k = a k) ∧ (∀ k j, j ≠ n → k ≠ 23 → a' k j = a k j) ∧ ∀ j, (j < 6 * n ∨ 6 * n + 6 ≤ j) → a' 23 j = a 23 j
theorem vcg_wis {i : Nat → Int32} {a a' : Nat → Nat → Int32} (h0 : a' 0 = a 0) (h18 : a' 18 = a 18) (h19 : a' 19 = a 19) : v_wis i a' = v_wis i a := by
  funext m e; unfold v_wis; rw [h0, h18, h19]
theorem vcg_voi {i : Nat → Int32} {a a' : Nat → Nat → Int32} (h0 : a' 0 = a 0) : v_voi i a' = v_voi i a := by
  funext m; unfold v_voi; rw [h0]
theorem vcg_kin {i : Nat → Int32} {a a' : Nat → Nat → Int32} (h0 : a' 0 = a 0) : v_kin i a' = v_kin i a := by
  funext m; unfold v_kin; rw [h0]
theorem vcg_par {i : Nat → Int32} {a a' : Nat → Nat → Int32} (h0 : a' 0 = a 0) : v_par i a' = v_par i a := by
  funext m; unfold v_par; rw [h0]
theorem vcg_end {i : Nat → Int32} {a a' : Nat → Nat → Int32} (h0 : a' 0 = a 0) : v_end i a' = v_end i a := by
  funext m; unfold v_end; rw [h0]
theorem vcg_num {a a' : Nat → Nat → Int32} (h0 : a' 0 = a 0) : v_num a' = v_num a := by
  funext m; unfold v_num; rw [h0]
theorem vcg_mem {i : Nat → Int32} {a a' : Nat → Nat → Int32} (h0 : a' 0 = a 0) : v_mem i a' = v_mem i a := by
  unfold v_mem; rw [h0]
theorem vcg_ok {i : Nat → Int32} {a a' : Nat → Nat → Int32} {N : Nat} (h0 : a' 0 = a 0) (h : v_ok i a N) : v_ok i a' N := by
  unfold v_ok at h ⊢; rw [vcg_mem h0]; exact h
theorem vcg_mar {i : Nat → Int32} {a a' : Nat → Nat → Int32} {N : Nat} (h0 : a' 0 = a 0) (h18 : a' 18 = a 18) (h19 : a' 19 = a 19) : v_mar i a' N = v_mar i a N := by
  funext x y; unfold v_mar; rw [vcg_wis h0 h18 h19, vcg_voi h0]
theorem vcg_std {i : Nat → Int32} {a a' : Nat → Nat → Int32} {N : Nat} (h0 : a' 0 = a 0) (h18 : a' 18 = a 18) (h19 : a' 19 = a 19) : v_std i a' N = v_std i a N := by
  funext x y; unfold v_std v_bts; rw [vcg_mar h0 h18 h19, h0]
theorem vcg_psg {i : Nat → Int32} {a a' : Nat → Nat → Int32} {N : Nat} (h0 : a' 0 = a 0) (h18 : a' 18 = a 18) (h19 : a' 19 = a 19) : v_psg i a' N = v_psg i a N := by
  funext p x y; unfold v_psg; rw [vcg_wis h0 h18 h19, vcg_voi h0, vcg_kin h0, vcg_par h0]
theorem vcg_vot {i : Nat → Int32} {a a' : Nat → Nat → Int32} {N : Nat} (h0 : a' 0 = a 0) (h18 : a' 18 = a 18) (h19 : a' 19 = a 19) : v_vot i a' N = v_vot i a N := by
  funext m n c s ins n' c' s' ins'; unfold v_vot; rw [vcg_wis h0 h18 h19, vcg_voi h0, vcg_kin h0, vcg_par h0, vcg_end h0, vcg_num h0, vcg_psg h0 h18 h19]
/-- the sum of votes of a question -/
def v_sum (i : Nat → Int32) (a : Nat → Nat → Int32) (N n c : Nat) (s : Nat → Nat) (ins : Int32) (n' c' : Nat) (s' : Nat → Nat) (ins' : Int32) : Int32 := sv (fun m => v_vot i a N m n c s ins n' c' s' ins') N
/-- what is seen of a question -/
def q_see (std : Nat → Nat → Nat) (n : Nat) (s s' : Nat → Nat) (q : Nat) : Nat := match q with
  | 0 => n
  | q + 1 => std (s q) (s' q)
theorem ms_Model_settleQuestion : pm_Ms[202]? = some md_Model_settleQuestion := rfl
theorem ms_Model_settle : pm_Ms[201]? = some md_Model_settle := rfl
theorem ms_Model_load : pm_Ms[200]? = some md_Model_load := rfl
theorem ms_Model_endOf : pm_Ms[199]? = some md_Model_endOf := rfl
section
variable {X : pm_X} {PR : pm_P} {S : pm_S} {i : Nat → Int32} {a : Nat → Nat → Int32} {r bt : Nat → Int64} {N : Nat}
set_option maxHeartbeats 4000000 in
theorem r_Model_settleQuestion (hP : pm_np PR) {d : Nat} (hd : 7 ≤ d) (hM : MR S i a r bt) (hN : v_ok i a N) (hq : ∀ m, m < N → v_kin i a m = 2 → ∃ q, q < 6 ∧ a 0 (30 + m) = nI q) {K A B n c n' c' : Nat} {s s' : Nat → Nat} {ins ins' : Int32} (hK : K < 110) (hKA : A < K) (hKB : B < K) (eA : a 10 K = nI A) (eB : a 11 K = nI B) (hA : nd_ok a A n c s ins) (hB : nd_ok a B n' c' s' ins') :
    ∃ (S' : pm_S) (a' : Nat → Nat → Int32), pm_run X pm_Ms PR d 202 [.ref 163, .int (nI K)] S = some (none, S') ∧ MR S' i a' r bt ∧ mfr S S' ∧ sq_fr a a' K ∧
      a' 24 K = v_sum i a N n c s ins n' c' s' ins' ∧ a' 25 K = (if q_fst (v_sum i a N n c s ins n' c' s' ins') (a 0 1) n n' then 0 else 1) ∧
      nd_ok a' K n (if q_fst (v_sum i a N n c s ins n' c' s' ins') (a 0 1) n n' then c else c') (q_see (v_std i a N) n s s') (a 21 K) := by
  have hA' := hA
  have hB' := hB
  obtain ⟨A1, A2, A3, A4, A5, A6, A7⟩ := hA'
  obtain ⟨B1, B2, B3, B4, B5, B6, B7⟩ := hB'
  have hN' := hN
  obtain ⟨hN1, hN2, hN3⟩ := hN'
  generalize hsum : v_sum i a N n c s ins n' c' s' ins' = sum
  have hcode : ∃ cf, cf = pm_run X pm_Ms PR (d - 1) := ⟨_, rfl⟩
  have tail : ∀ (L5 L6 : Option Value), ∃ (S' : pm_S) (a' : Nat → Nat → Int32), pm_to X pm_Ms (pm_run X pm_Ms PR (d - 1)) none cd_Model_settleQuestion 15 ([some (.ref 163), some (.int (nI K)), some (.int (nI A)), some (.int (nI B)), some (.int sum), L5, L6], [.int (bI (q_fst sum (a 0 1) n n'))], S) (none, S') ∧ MR S' i a' r bt ∧ mfr S S' ∧ sq_fr a a' K ∧ a' 24 K = sum ∧ a' 25 K = (if q_fst sum (a 0 1) n n' then 0 else 1) ∧ nd_ok a' K n (if q_fst sum (a 0 1) n n' then c else c') (q_see (v_std i a N) n s s') (a 21 K) := by
    intro L5 L6
    -- the states behind the stores
    generalize hfl : bI (q_fst sum (a 0 1) n n') = fl
    generalize hw : (if q_fst sum (a 0 1) n n' then (0 : Int32) else 1) = w
    generalize hcc : (if q_fst sum (a 0 1) n n' then c else c') = cc
    have hccn : (if q_fst sum (a 0 1) n n' then nI c else nI c') = nI cc := by rw [← hcc]; split <;> rfl
    have hcc7 : cc < 7 := by rw [← hcc]; split <;> assumption
    have M1 := hM.putA 24 (by decide) (upd (a 24) K sum)
    have M2 := M1.putA 25 (by decide) (upd (a 25) K w)
    have M3 := M2.putA 22 (by decide) (upd (a 22) K (nI cc))
    have M4 := M3.putA 20 (by decide) (upd (a 20) K (nI n))
    generalize hb : va_up (va_up (va_up (va_up a 24 (upd (a 24) K sum)) 25 (upd (a 25) K w)) 22 (upd (a 22) K (nI cc))) 20 (upd (a 20) K (nI n)) = b at M4
    have b0 : b 0 = a 0 := by rw [← hb]; rfl
    have b18 : b 18 = a 18 := by rw [← hb]; rfl
    have b19 : b 19 = a 19 := by rw [← hb]; rfl
    have b20 : b 20 = upd (a 20) K (nI n) := by rw [← hb]; rfl
    have b21 : b 21 = a 21 := by rw [← hb]; rfl
    have b22 : b 22 = upd (a 22) K (nI cc) := by rw [← hb]; rfl
    have b23 : b 23 = a 23 := by rw [← hb]; rfl
    have b24 : b 24 = upd (a 24) K sum := by rw [← hb]; rfl
    have b25 : b 25 = upd (a 25) K w := by rw [← hb]; rfl
    have bo : ∀ k, ¬ (20 ≤ k ∧ k ≤ 25) → b k = a k := by
      intro k hk
      rw [← hb]
      simp only [va_up]
      rw [if_neg (by omega), if_neg (by omega), if_neg (by omega), if_neg (by omega)]
    have F4 := ((((mfr.rf S).trans (mfr.put (c := 164 + 24) (e := .inl (0, msz 24, .inl (upd (a 24) K sum))) (by decide))).trans (mfr.put (c := 164 + 25) (e := .inl (0, msz 25, .inl (upd (a 25) K w))) (by decide))).trans (mfr.put (c := 164 + 22) (e := .inl (0, msz 22, .inl (upd (a 22) K (nI cc)))) (by decide))).trans (mfr.put (c := 164 + 20) (e := .inl (0, msz 20, .inl (upd (a 20) K (nI n)))) (by decide))
    -- the loop over what is seen
    have loop : ∀ (k e : Nat) (T : pm_S) (g : Nat → Int32), 1 ≤ e → e + k = 6 → MR T i (va_up b 23 g) r bt → mfr S T → (∀ q, 1 ≤ q → q < e → g (6 * K + q) = nI (q_see (v_std i a N) n s s' q)) → (∀ j, (j < 6 * K + 1 ∨ 6 * K + 6 ≤ j) → g j = a 23 j) →
        ∃ (S' : pm_S) (a' : Nat → Nat → Int32), pm_to X pm_Ms (pm_run X pm_Ms PR (d - 1)) none cd_Model_settleQuestion 22 ([some (.ref 163), some (.int (nI K)), some (.int (nI A)), some (.int (nI B)), some (.int sum), some (.int fl), some (.int (nI e))], [], T) (none, S') ∧ MR S' i a' r bt ∧ mfr S S' ∧ sq_fr a a' K ∧ a' 24 K = sum ∧ a' 25 K = w ∧ nd_ok a' K n cc (q_see (v_std i a N) n s s') (a 21 K) := by
      intro k
      induction k with
      | zero =>
        intro e T g he1 he2 MT FT hg1 hg2
        have e6 : e = 6 := by omega
        subst e6
        have ix : nI 6 * nI K = nI (6 * K) := pk_mul 6 K
        refine ⟨_, va_up (va_up b 23 g) 23 (upd g (6 * K) (nI n)), ?_, MT.putA 23 (by decide) (upd g (6 * K) (nI n)), FT.trans (mfr.put (by decide)), ⟨?_, ?_, ?_⟩, ?_, ?_, ?_⟩
        · refine pm_to.blk rfl ?_
          refine pe_iload rfl ?_
          refine pe_iconst (v := 6) rfl ?_
          refine pe_icmp_ge (tgt := 24) (nx := 23) rfl rfl (fun hc22 => ?_) (fun hc22 => ?_)
          · have e20 : (va_up b 23 g) 20 K = nI n := by show b 20 K = nI n; rw [b20]; simp [upd]
            refine pm_to.blk rfl ?_
            refine pe_aload rfl ?_
            refine pe_getf MT.o rfl rfl ?_
            refine pe_iconst (v := 6) rfl ?_
            refine pe_iload rfl ?_
            refine pe_imul ?_
            refine pe_aload rfl ?_
            refine pe_getf MT.o rfl rfl ?_
            refine pe_iload rfl ?_
            refine pe_ialdN (MT.a 20 (by decide)) rfl (by show K < 110; omega) (by decide) ?_
            refine pe_iastN (MT.a 23 (by decide)) ix (by show 6 * K < 660; omega) (by decide) ?_
            exact pe_ret rfl (by rw [e20]; rfl)
          · exact absurd (show (6 : Int32) ≤ nI 6 by decide) hc22
        · intro k hk
          show va_up (va_up b 23 g) 23 _ k = a k
          simp only [va_up]
          rw [if_neg (by omega), if_neg (by omega)]
          exact bo k hk
        · intro k j hj hk
          show va_up (va_up b 23 g) 23 _ k j = a k j
          simp only [va_up]
          rw [if_neg hk, if_neg hk]
          by_cases h20 : 20 ≤ k ∧ k ≤ 25
          · rcases (show k = 20 ∨ k = 21 ∨ k = 22 ∨ k = 24 ∨ k = 25 by omega) with rfl | rfl | rfl | rfl | rfl
            · rw [b20]; simp [upd, hj]
            · rw [b21]
            · rw [b22]; simp [upd, hj]
            · rw [b24]; simp [upd, hj]
            · rw [b25]; simp [upd, hj]
          · rw [bo k h20]
        · intro j hj
          show upd g (6 * K) (nI n) j = a 23 j
          rw [pk_un (by omega)]
          exact hg2 j (by omega)
        · show b 24 K = sum
          rw [b24]; simp [upd]
        · show b 25 K = w
          rw [b25]; simp [upd]
        · refine ⟨by omega, ?_, A3, ?_, hcc7, fun q hq6 => ?_, ?_⟩
          · show b 20 K = nI n
            rw [b20]; simp [upd]
          · show b 22 K = nI cc
            rw [b22]; simp [upd]
          · show upd g (6 * K) (nI n) (6 * K + q) = _ ∧ _
            cases q with
            | zero => exact ⟨by rw [Nat.add_zero, pk_us]; rfl, A3⟩
            | succ q =>
              rw [pk_un (by omega), hg1 (q + 1) (by omega) (by omega)]
              exact ⟨rfl, v_std_lt (A6 q (by omega)).2 (B6 q (by omega)).2⟩
          · show b 21 K = a 21 K
            rw [b21]
      | succ k ih =>
        intro e T g he1 he2 MT FT hg1 hg2
        have ix : nI 6 * nI K + nI e = nI (6 * K + e) := by rw [pk_mul, nI_add]
        have ixA : ∀ Z : Nat, nI 6 * nI Z + nI e - nI 1 = nI (6 * Z + (e - 1)) := fun Z => by
          rw [pk_mul, nI_add, pk_sub (by omega)]
          congr 1
          omega
        have gA : g (6 * A + (e - 1)) = nI (s (e - 1)) := by rw [hg2 _ (by omega)]; exact (A6 (e - 1) (by omega)).1
        have gB : g (6 * B + (e - 1)) = nI (s' (e - 1)) := by rw [hg2 _ (by omega)]; exact (B6 (e - 1) (by omega)).1
        have c0 : (va_up b 23 g) 0 = a 0 := b0
        have hok : v_ok i (va_up b 23 g) N := vcg_ok c0 hN
        have hst : v_std i (va_up b 23 g) N = v_std i a N := vcg_std c0 b18 b19
        have hstd := r_Model_standing (X := X) hP (d := d - 1) (by omega) MT hok (A6 (e - 1) (by omega)).2 (B6 (e - 1) (by omega)).2
        rw [hst] at hstd
        have M5 := MT.putA 23 (by decide) (upd g (6 * K + e) (nI (v_std i a N (s (e - 1)) (s' (e - 1)))))
        have eU : va_up (va_up b 23 g) 23 (upd g (6 * K + e) (nI (v_std i a N (s (e - 1)) (s' (e - 1))))) = va_up b 23 (upd g (6 * K + e) (nI (v_std i a N (s (e - 1)) (s' (e - 1))))) := bx_uu _ _ _ _
        rw [eU] at M5
        obtain ⟨S', a', h1, h2⟩ := ih (e + 1) _ _ (by omega) (by omega) M5 (FT.trans (mfr.put (by decide))) (fun q q1 q2 => by
          by_cases hqe : q = e
          · subst hqe
            rw [pk_us]
            obtain ⟨z, rfl⟩ : ∃ z, q = z + 1 := ⟨q - 1, by omega⟩
            rfl
          · rw [pk_un (by omega)]
            exact hg1 q q1 (by omega)) (fun j hj => by
          rw [pk_un (by omega)]
          exact hg2 j hj)
        refine ⟨S', a', ?_, h2⟩
        refine pm_to.blk rfl ?_
        refine pe_iload rfl ?_
        refine pe_iconst (v := 6) rfl ?_
        refine pe_icmp_ge (tgt := 24) (nx := 23) rfl rfl (fun hc22 => ?_) (fun hc22 => ?_)
        · exact absurd hc22 (nI_ge (a := e) (b := 6) (by omega) (by decide))
        · refine pm_to.blk rfl ?_
          refine pe_aload rfl ?_
          refine pe_getf MT.o rfl rfl ?_
          refine pe_iconst (v := 6) rfl ?_
          refine pe_iload rfl ?_
          refine pe_imul ?_
          refine pe_iload rfl ?_
          refine pe_iadd ?_
          refine pe_aload rfl ?_
          refine pe_aload rfl ?_
          refine pe_getf MT.o rfl rfl ?_
          refine pe_iconst (v := 6) rfl ?_
          refine pe_iload rfl ?_
          refine pe_imul ?_
          refine pe_iload rfl ?_
          refine pe_iadd ?_
          refine pe_iconst (v := 1) rfl ?_
          refine pe_isub ?_
          refine pe_ialdN (MT.a 23 (by decide)) (ixA A) (by show 6 * A + (e - 1) < 660; omega) (by decide) ?_
          refine pe_aload rfl ?_
          refine pe_getf MT.o rfl rfl ?_
          refine pe_iconst (v := 6) rfl ?_
          refine pe_iload rfl ?_
          refine pe_imul ?_
          refine pe_iload rfl ?_
          refine pe_iadd ?_
          refine pe_iconst (v := 1) rfl ?_
          refine pe_isub ?_
          refine pe_ialdN (MT.a 23 (by decide)) (ixA B) (by show 6 * B + (e - 1) < 660; omega) (by decide) ?_
          refine pe_virt rfl rfl (MT.o ) rfl ( by show pm_run _ _ _ _ _ [_, .int (g (6 * A + (e - 1))), .int (g (6 * B + (e - 1)))] _ = _; rw [gA, gB]; exact hstd) ?_
          refine pe_iastN (MT.a 23 (by decide)) ix (by show 6 * K + e < 660; omega) (by decide) ?_
          refine pe_iinc (L' := [_, _, _, _, _, _, _]) rfl ((nI_succ e).symm) rfl ?_
          refine pe_goto (tgt := 22) rfl ?_
          exact h1
    have hlast := loop 5 1 _ (a 23) (by omega) (by omega) (by have : va_up b 23 (a 23) = b := by { funext k; simp only [va_up]; split; (· rename_i h; rw [h, b23]); rfl }; rw [this]; exact M4) F4 (fun q q1 q2 => by omega) (fun j _ => rfl)
    obtain ⟨S', a', h1, h2⟩ := hlast
    refine ⟨S', a', ?_, h2⟩
    -- block 21, with what comes on the stack
    have t21 : ∀ L6 : Option Value, pm_to X pm_Ms (pm_run X pm_Ms PR (d - 1)) none cd_Model_settleQuestion 21 ([some (.ref 163), some (.int (nI K)), some (.int (nI A)), some (.int (nI B)), some (.int sum), some (.int fl), L6], [.int (nI cc), .int (nI K), .ref 186], pm_put (pm_put S (164 + 24) (.inl (0, msz 24, .inl (upd (a 24) K sum)))) (164 + 25) (.inl (0, msz 25, .inl (upd (a 25) K w)))) (none, S') := by
      intro L6
      refine pm_to.blk rfl ?_
      refine pe_iastN (M2.a 22 (by decide)) rfl (by show K < 110; omega) (by decide) ?_
      refine pe_aload rfl ?_
      refine pe_getf M3.o rfl rfl ?_
      refine pe_iload rfl ?_
      refine pe_aload rfl ?_
      refine pe_getf M3.o rfl rfl ?_
      refine pe_iload rfl ?_
      refine pe_ialdN (M3.a 20 (by decide)) rfl (by show A < 110; omega) (by decide) ?_
      refine pe_iastN (M3.a 20 (by decide)) rfl (by show K < 110; omega) (by decide) ?_
      refine pe_iconst (v := 1) rfl ?_
      refine pe_istore (L' := [_, _, _, _, _, _, _]) rfl ?_
      refine pe_nil (nx := 22) rfl ?_
      rw [show (va_up (va_up (va_up a 24 (upd (a 24) K sum)) 25 (upd (a 25) K w)) 22 (upd (a 22) K (nI cc))) 20 A = nI n from A2]
      exact h1
    -- block 18, with who wins on the stack
    have t18 : ∀ L6 : Option Value, pm_to X pm_Ms (pm_run X pm_Ms PR (d - 1)) none cd_Model_settleQuestion 18 ([some (.ref 163), some (.int (nI K)), some (.int (nI A)), some (.int (nI B)), some (.int sum), some (.int fl), L6], [.int w, .int (nI K), .ref 189], pm_put S (164 + 24) (.inl (0, msz 24, .inl (upd (a 24) K sum)))) (none, S') := by
      intro L6
      refine pm_to.blk rfl ?_
      refine pe_iastN (M1.a 25 (by decide)) rfl (by show K < 110; omega) (by decide) ?_
      refine pe_aload rfl ?_
      refine pe_getf M2.o rfl rfl ?_
      refine pe_iload rfl ?_
      refine pe_iload rfl ?_
      refine pe_if_eq (tgt := 20) (nx := 19) rfl rfl (fun hc18 => ?_) (fun hc18 => ?_)
      · have hn : ¬ q_fst sum (a 0 1) n n' := fun z => by rw [← hfl, bI_t z] at hc18; exact absurd hc18 (by decide)
        refine pm_to.blk rfl ?_
        refine pe_aload rfl ?_
        refine pe_getf M2.o rfl rfl ?_
        refine pe_iload rfl ?_
        refine pe_ialdN (M2.a 22 (by decide)) rfl (by show B < 110; omega) (by decide) ?_
        refine pe_nil (nx := 21) rfl ?_
        rw [show (va_up (va_up a 24 (upd (a 24) K sum)) 25 (upd (a 25) K w)) 22 B = nI cc from by rw [← hccn, if_neg hn]; exact B4]
        exact t21 _
      · have hy : q_fst sum (a 0 1) n n' := by rw [← hfl] at hc18; exact bI_ne.mp hc18
        refine pm_to.blk rfl ?_
        refine pe_aload rfl ?_
        refine pe_getf M2.o rfl rfl ?_
        refine pe_iload rfl ?_
        refine pe_ialdN (M2.a 22 (by decide)) rfl (by show A < 110; omega) (by decide) ?_
        refine pe_goto (tgt := 21) rfl ?_
        rw [show (va_up (va_up a 24 (upd (a 24) K sum)) 25 (upd (a 25) K w)) 22 A = nI cc from by rw [← hccn, if_pos hy]; exact A4]
        exact t21 _
    refine pm_to.blk rfl ?_
    refine pe_istore (L' := [_, _, _, _, _, _, _]) rfl ?_
    refine pe_aload rfl ?_
    refine pe_getf hM.o rfl rfl ?_
    refine pe_iload rfl ?_
    refine pe_iload rfl ?_
    refine pe_iastN (hM.a 24 (by decide)) rfl (by show K < 110; omega) (by decide) ?_
    refine pe_aload rfl ?_
    refine pe_getf M1.o rfl rfl ?_
    refine pe_iload rfl ?_
    refine pe_iload rfl ?_
    refine pe_if_eq (tgt := 17) (nx := 16) rfl rfl (fun hc15 => ?_) (fun hc15 => ?_)
    · have hn : ¬ q_fst sum (a 0 1) n n' := fun z => by rw [← hfl, bI_t z] at hc15; exact absurd hc15 (by decide)
      refine pm_to.blk rfl ?_
      refine pe_iconst (v := 1) rfl ?_
      refine pe_nil (nx := 18) rfl ?_
      have hw1 : w = 1 := by rw [← hw, if_neg hn]
      have := t18 L6
      rw [hw1] at this
      exact this
    · have hy : q_fst sum (a 0 1) n n' := by rw [← hfl] at hc15; exact bI_ne.mp hc15
      refine pm_to.blk rfl ?_
      refine pe_iconst (v := 0) rfl ?_
      refine pe_goto (tgt := 18) rfl ?_
      have hw1 : w = 0 := by rw [← hw, if_pos hy]
      have := t18 L6
      rw [hw1] at this
      exact this
  obtain ⟨S', a', hto, hrest⟩ := tail (some (.int (nI N))) none
  refine ⟨S', a', ?_, hrest⟩
  refine pm_run_of (L := [_, _, _, _, _, _, _]) (by omega) (hP _ rfl) ms_Model_settleQuestion rfl ?_
  show pm_to _ _ _ (none) cd_Model_settleQuestion 0 _ _
  have t14 : ¬ q_fst sum (a 0 1) n n' → pm_to X pm_Ms (pm_run X pm_Ms PR (d - 1)) none cd_Model_settleQuestion 14 ([some (.ref 163), some (.int (nI K)), some (.int (nI A)), some (.int (nI B)), some (.int sum), some (.int (nI N)), none], [], S) (none, S') := by
    intro hn
    rw [bI_f hn] at hto
    refine pm_to.blk rfl ?_
    refine pe_iconst (v := 0) rfl ?_
    refine pe_nil (nx := 15) rfl ?_
    exact hto
  have t13 : q_fst sum (a 0 1) n n' → pm_to X pm_Ms (pm_run X pm_Ms PR (d - 1)) none cd_Model_settleQuestion 13 ([some (.ref 163), some (.int (nI K)), some (.int (nI A)), some (.int (nI B)), some (.int sum), some (.int (nI N)), none], [], S) (none, S') := by
    intro hn
    rw [bI_t hn] at hto
    refine pm_to.blk rfl ?_
    refine pe_iconst (v := 1) rfl ?_
    refine pe_goto (tgt := 15) rfl ?_
    exact hto
  have enn : a 20 A = a 20 B ↔ n = n' := by rw [A2, B2]; exact nI_eq (by omega) (by omega)
  have t12 : ∀ u v : Int32, u = bI (n < n') → v = bI (a 0 1 = 0) → sum = 0 → ¬ n = n' → ¬ 0 < sum → pm_to X pm_Ms (pm_run X pm_Ms PR (d - 1)) none cd_Model_settleQuestion 12 ([some (.ref 163), some (.int (nI K)), some (.int (nI A)), some (.int (nI B)), some (.int sum), some (.int (nI N)), none], [.int v, .int u], S) (none, S') := by
    intro u v hu hv hs hne hns
    refine pm_to.blk rfl ?_
    refine pe_icmp_ne (tgt := 14) (nx := 13) rfl rfl (fun hc12 => ?_) (fun hc12 => ?_)
    · exact t14 (fun z => z.elim hns (fun q => q.2.elim hne (fun w => hc12 (by rw [hu, hv]; exact w))))
    · exact t13 (Or.inr ⟨hs, Or.inr (by rw [← hu, ← hv]; exact Decidable.not_not.mp hc12)⟩)
  have t9 : ∀ u : Int32, u = bI (n < n') → sum = 0 → ¬ n = n' → ¬ 0 < sum → pm_to X pm_Ms (pm_run X pm_Ms PR (d - 1)) none cd_Model_settleQuestion 9 ([some (.ref 163), some (.int (nI K)), some (.int (nI A)), some (.int (nI B)), some (.int sum), some (.int (nI N)), none], [.int u], S) (none, S') := by
    intro u hu hs hne hns
    refine pm_to.blk rfl ?_
    refine pe_aload rfl ?_
    refine pe_getf hM.o rfl rfl ?_
    refine pe_iconst (v := 1) rfl ?_
    refine pe_iald (hM.a 0 (by decide)) (vi rfl) ?_
    refine pe_if_ne (tgt := 11) (nx := 10) rfl rfl (fun hc9 => ?_) (fun hc9 => ?_)
    · refine pm_to.blk rfl ?_
      refine pe_iconst (v := 0) rfl ?_
      refine pe_nil (nx := 12) rfl ?_
      exact t12 u 0 hu (bI_f hc9).symm hs hne hns
    · refine pm_to.blk rfl ?_
      refine pe_iconst (v := 1) rfl ?_
      refine pe_goto (tgt := 12) rfl ?_
      exact t12 u 1 hu (bI_t (Decidable.not_not.mp hc9)).symm hs hne hns
  have t3 : pm_to X pm_Ms (pm_run X pm_Ms PR (d - 1)) none cd_Model_settleQuestion 3 ([some (.ref 163), some (.int (nI K)), some (.int (nI A)), some (.int (nI B)), some (.int sum), some (.int (nI N)), none], [], S) (none, S') := by
    refine pm_to.blk rfl ?_
    refine pe_iload rfl ?_
    refine pe_if_gt (tgt := 13) (nx := 4) rfl rfl (fun hc3 => ?_) (fun hc3 => ?_)
    · exact t13 (Or.inl hc3)
    · refine pm_to.blk rfl ?_
      refine pe_iload rfl ?_
      refine pe_if_ne (tgt := 14) (nx := 5) rfl rfl (fun hc4 => ?_) (fun hc4 => ?_)
      · exact t14 (fun z => z.elim hc3 (fun q => hc4 q.1))
      · have hs := Decidable.not_not.mp hc4
        refine pm_to.blk rfl ?_
        refine pe_aload rfl ?_
        refine pe_getf hM.o rfl rfl ?_
        refine pe_iload rfl ?_
        refine pe_ialdN (hM.a 20 (by decide)) rfl (by show A < 110; omega) (by decide) ?_
        refine pe_aload rfl ?_
        refine pe_getf hM.o rfl rfl ?_
        refine pe_iload rfl ?_
        refine pe_ialdN (hM.a 20 (by decide)) rfl (by show B < 110; omega) (by decide) ?_
        refine pe_icmp_eq (tgt := 13) (nx := 6) rfl rfl (fun hc5 => ?_) (fun hc5 => ?_)
        · exact t13 (Or.inr ⟨hs, Or.inl (enn.mp hc5)⟩)
        · have hne : ¬ n = n' := fun z => hc5 (enn.mpr z)
          refine pm_to.blk rfl ?_
          refine pe_aload rfl ?_
          refine pe_getf hM.o rfl rfl ?_
          refine pe_iload rfl ?_
          refine pe_ialdN (hM.a 20 (by decide)) rfl (by show A < 110; omega) (by decide) ?_
          refine pe_aload rfl ?_
          refine pe_getf hM.o rfl rfl ?_
          refine pe_iload rfl ?_
          refine pe_ialdN (hM.a 20 (by decide)) rfl (by show B < 110; omega) (by decide) ?_
          refine pe_icmp_ge (tgt := 8) (nx := 7) rfl rfl (fun hc6 => ?_) (fun hc6 => ?_)
          · rw [A2, B2] at hc6
            refine pm_to.blk rfl ?_
            refine pe_iconst (v := 0) rfl ?_
            refine pe_nil (nx := 9) rfl ?_
            exact t9 0 (bI_f (fun z => absurd hc6 (nI_ge z (by omega)))).symm hs hne hc3
          · rw [A2, B2] at hc6
            refine pm_to.blk rfl ?_
            refine pe_iconst (v := 1) rfl ?_
            refine pe_goto (tgt := 9) rfl ?_
            exact t9 1 (bI_t ((nI_ltI (by omega) (by omega)).mp (Int32.not_le.mp hc6))).symm hs hne hc3
  have hsv : sv (fun m => v_vot i a N m n c s ins n' c' s' ins') N = sum := hsum
  have loop : ∀ (k m : Nat), m + k = N → pm_to X pm_Ms (pm_run X pm_Ms PR (d - 1)) none cd_Model_settleQuestion 1 ([some (.ref 163), some (.int (nI K)), some (.int (nI A)), some (.int (nI B)), some (.int (sv (fun m => v_vot i a N m n c s ins n' c' s' ins') m)), some (.int (nI m)), none], [], S) (none, S') := by
    intro k
    induction k with
    | zero =>
      intro m hm
      have e : m = N := by omega
      subst e
      rw [hsv]
      refine pm_to.blk rfl ?_
      refine pe_iload rfl ?_
      refine pe_aload rfl ?_
      refine pe_virt rfl rfl (hM.o ) rfl ( r_Model_members hP (by omega) hM) ?_
      refine pe_icmp_ge (tgt := 3) (nx := 2) rfl rfl (fun hc1 => ?_) (fun hc1 => ?_)
      · exact t3
      · exact absurd (by rw [hN1]; exact nI_le (Nat.le_refl _) (by omega)) hc1
    | succ k ih =>
      intro m hm
      refine pm_to.blk rfl ?_
      refine pe_iload rfl ?_
      refine pe_aload rfl ?_
      refine pe_virt rfl rfl (hM.o ) rfl ( r_Model_members hP (by omega) hM) ?_
      refine pe_icmp_ge (tgt := 3) (nx := 2) rfl rfl (fun hc1 => ?_) (fun hc1 => ?_)
      · rw [hN1] at hc1
        exact absurd hc1 (nI_ge (by omega) (by omega))
      · refine pm_to.blk rfl ?_
        refine pe_iload rfl ?_
        refine pe_aload rfl ?_
        refine pe_iload rfl ?_
        refine pe_iload rfl ?_
        refine pe_iload rfl ?_
        refine pe_virt rfl rfl (hM.o ) rfl ( r_Model_voteOf hP (by omega) hM hN (by omega) (hq m (by omega)) hA hB) ?_
        refine pe_iadd ?_
        refine pe_istore (L' := [_, _, _, _, _, _, _]) rfl ?_
        refine pe_iinc (L' := [_, _, _, _, _, _, _]) rfl ((nI_succ m).symm) rfl ?_
        refine pe_goto (tgt := 1) rfl ?_
        exact ih (m + 1) (by omega)
  refine pm_to.blk rfl ?_
  refine pe_aload rfl ?_
  refine pe_getf hM.o rfl rfl ?_
  refine pe_iload rfl ?_
  refine pe_ialdN (hM.a 10 (by decide)) rfl (by show K < 110; omega) (by decide) ?_
  refine pe_istore (L' := [_, _, _, _, _, _, _]) rfl ?_
  refine pe_aload rfl ?_
  refine pe_getf hM.o rfl rfl ?_
  refine pe_iload rfl ?_
  refine pe_ialdN (hM.a 11 (by decide)) rfl (by show K < 110; omega) (by decide) ?_
  refine pe_istore (L' := [_, _, _, _, _, _, _]) rfl ?_
  refine pe_iconst (v := 0) rfl ?_
  refine pe_istore (L' := [_, _, _, _, _, _, _]) rfl ?_
  refine pe_iconst (v := 0) rfl ?_
  refine pe_istore (L' := [_, _, _, _, _, _, _]) rfl ?_
  refine pe_nil (nx := 1) rfl ?_
  rw [eA, eB]
  exact loop N 0 (by omega)
end
