/-! the reference: all nodes are settled -/
/-- what comes of a node: name, comes, sees, inside, voted, wins -/
abbrev NV : Type := Nat × Nat × (Nat → Nat) × Int32 × Int32 × Int32
def nv_leaf (x : Nat) : NV := (x, x, fun _ => x, 1 <<< (nI x &&& 31), 0, 0)
def nv_q (i : Nat → Int32) (a : Nat → Nat → Int32) (N : Nat) (A B : NV) : NV :=
  (A.1, (if q_fst (v_sum i a N A.1 A.2.1 A.2.2.1 A.2.2.2.1 B.1 B.2.1 B.2.2.1 B.2.2.2.1) (a 0 1) A.1 B.1 then A.2.1 else B.2.1), q_see (v_std i a N) A.1 A.2.2.1 B.2.2.1, A.2.2.2.1 ||| B.2.2.2.1,
    v_sum i a N A.1 A.2.1 A.2.2.1 A.2.2.2.1 B.1 B.2.1 B.2.2.1 B.2.2.2.1, (if q_fst (v_sum i a N A.1 A.2.1 A.2.2.1 A.2.2.2.1 B.1 B.2.1 B.2.2.1 B.2.2.2.1) (a 0 1) A.1 B.1 then 0 else 1))
def nv_c (i : Nat → Int32) (a : Nat → Nat → Int32) (N x y : Nat) (A B : NV) : NV := if v_bts i a N x y then (A.1, A.2.1, A.2.2.1, A.2.2.2.1 ||| B.2.2.2.1, 0, 0) else (B.1, B.2.1, B.2.2.1, A.2.2.2.1 ||| B.2.2.2.1, 0, 0)
/-- a tree of nodes: kind, left, right, x, y -/
abbrev TR : Type := Nat → Nat × Nat × Nat × Nat × Nat
def nvf (i : Nat → Int32) (a : Nat → Nat → Int32) (N : Nat) (t : TR) : Nat → Nat → NV
  | 0, _ => nv_leaf 0
  | f + 1, n => if (t n).1 = 0 then nv_leaf (t n).2.2.2.1 else if (t n).1 = 1 then nv_q i a N (nvf i a N t f (t n).2.1) (nvf i a N t f (t n).2.2.1) else nv_c i a N (t n).2.2.2.1 (t n).2.2.2.2 (nvf i a N t f (t n).2.1) (nvf i a N t f (t n).2.2.1)
def tr_ok (t : TR) (K : Nat) : Prop := ∀ n, n < K → (t n).1 ≤ 2 ∧ ((t n).1 = 0 → (t n).2.2.2.1 < 7) ∧ (¬ (t n).1 = 0 → (t n).2.1 < n ∧ (t n).2.2.1 < n) ∧ ((t n).1 = 2 → (t n).2.2.2.1 < 7 ∧ (t n).2.2.2.2 < 7)
theorem nvf_fuel {i : Nat → Int32} {a : Nat → Nat → Int32} {N K : Nat} {t : TR} (ht : tr_ok t K) : ∀ (f g n : Nat), n < K → n < f → n < g → nvf i a N t f n = nvf i a N t g n := by
  intro f
  induction f with
  | zero => intro g n _ h; omega
  | succ f ih =>
    intro g n hn hf hg
    obtain ⟨g, rfl⟩ : ∃ k, g = k + 1 := ⟨g - 1, by omega⟩
    unfold nvf
    by_cases h0 : (t n).1 = 0
    · simp only [h0, if_true]
    · obtain ⟨h1, h2⟩ := (ht n hn).2.2.1 h0
      rw [ih g (t n).2.1 (by omega) (by omega) (by omega), ih g (t n).2.2.1 (by omega) (by omega) (by omega)]
def nval (i : Nat → Int32) (a : Nat → Nat → Int32) (N : Nat) (t : TR) (n : Nat) : NV := nvf i a N t (n + 1) n
theorem nval_0 {i : Nat → Int32} {a : Nat → Nat → Int32} {N n : Nat} {t : TR} (h : (t n).1 = 0) : nval i a N t n = nv_leaf (t n).2.2.2.1 := by
  unfold nval nvf; rw [if_pos h]
theorem nval_1 {i : Nat → Int32} {a : Nat → Nat → Int32} {N K n : Nat} {t : TR} (ht : tr_ok t K) (hn : n < K) (h : (t n).1 = 1) : nval i a N t n = nv_q i a N (nval i a N t (t n).2.1) (nval i a N t (t n).2.2.1) := by
  obtain ⟨h1, h2⟩ := (ht n hn).2.2.1 (by omega)
  unfold nval
  rw [nvf_fuel ht ((t n).2.1 + 1) n (t n).2.1 (by omega) (by omega) (by omega), nvf_fuel ht ((t n).2.2.1 + 1) n (t n).2.2.1 (by omega) (by omega) (by omega)]
  conv => lhs; unfold nvf
  rw [if_neg (by omega), if_pos h]
theorem nval_2 {i : Nat → Int32} {a : Nat → Nat → Int32} {N K n : Nat} {t : TR} (ht : tr_ok t K) (hn : n < K) (h : (t n).1 = 2) : nval i a N t n = nv_c i a N (t n).2.2.2.1 (t n).2.2.2.2 (nval i a N t (t n).2.1) (nval i a N t (t n).2.2.1) := by
  obtain ⟨h1, h2⟩ := (ht n hn).2.2.1 (by omega)
  unfold nval
  rw [nvf_fuel ht ((t n).2.1 + 1) n (t n).2.1 (by omega) (by omega) (by omega), nvf_fuel ht ((t n).2.2.1 + 1) n (t n).2.2.1 (by omega) (by omega) (by omega)]
  conv => lhs; unfold nvf
  rw [if_neg (by omega), if_neg (by omega)]
/-- the arrays hold what comes of node n -/
def nd_all (a : Nat → Nat → Int32) (t : TR) (n : Nat) (v : NV) : Prop := nd_ok a n v.1 v.2.1 v.2.2.1 v.2.2.2.1 ∧ ((t n).1 = 1 → a 24 n = v.2.2.2.2.1 ∧ a 25 n = v.2.2.2.2.2)
/-- the arrays hold the tree -/
def tr_at (a : Nat → Nat → Int32) (t : TR) (K : Nat) : Prop := ∀ n, n < K → a 9 n = nI (t n).1 ∧ (¬ (t n).1 = 0 → a 10 n = nI (t n).2.1 ∧ a 11 n = nI (t n).2.2.1) ∧ (True → a 12 n = nI (t n).2.2.2.1) ∧ ((t n).1 = 2 → a 13 n = nI (t n).2.2.2.2)
theorem sq_fr.nd {a a' : Nat → Nat → Int32} {t : TR} {n j : Nat} {v : NV} (h : sq_fr a a' n) (hj : j < n) (hv : nd_all a t j v) : nd_all a' t j v := by
  obtain ⟨⟨v1, v2, v3, v4, v5, v6, v7⟩, v8⟩ := hv
  obtain ⟨h1, h2, h3⟩ := h
  refine ⟨⟨v1, ?_, v3, ?_, v5, fun q hq => ?_, ?_⟩, fun hk => ⟨?_, ?_⟩⟩
  · rw [h2 20 j (by omega) (by decide)]; exact v2
  · rw [h2 22 j (by omega) (by decide)]; exact v4
  · rw [h3 _ (by omega)]; exact v6 q hq
  · rw [h2 21 j (by omega) (by decide)]; exact v7
  · rw [h2 24 j (by omega) (by decide)]; exact (v8 hk).1
  · rw [h2 25 j (by omega) (by decide)]; exact (v8 hk).2
section
variable {X : pm_X} {PR : pm_P} {S : pm_S} {i : Nat → Int32} {a : Nat → Nat → Int32} {r bt : Nat → Int64} {N : Nat}
/-- one node of the loop, an END -/
theorem s_leaf {d : Nat} (hM : MR S i a r bt) {n x : Nat} (hn : n < 110) (hx : x < 7) (e9 : a 9 n = 0) (e12 : a 12 n = nI x) :
    ∃ (S' : pm_S) (a' : Nat → Nat → Int32), MR S' i a' r bt ∧ mfr S S' ∧ sq_fr a a' n ∧ nd_ok a' n x x (fun _ => x) (1 <<< (nI x &&& 31)) ∧
      ∀ (t : pm_T) (L2 L3 : Option Value), (∀ L2 L3 : Option Value, pm_to X pm_Ms (pm_run X pm_Ms PR d) (some .int) cd_Model_settle 15 ([some (.ref 163), some (.int (nI n)), L2, L3], [], S') t) → pm_to X pm_Ms (pm_run X pm_Ms PR d) (some .int) cd_Model_settle 2 ([some (.ref 163), some (.int (nI n)), L2, L3], [], S) t := by
  have M1 := hM.putA 20 (by decide) (upd (a 20) n (nI x))
  have M2 := M1.putA 21 (by decide) (upd (a 21) n (1 <<< (nI x &&& 31)))
  have M3 := M2.putA 22 (by decide) (upd (a 22) n (nI x))
  have F3 := (((mfr.rf S).trans (mfr.put (c := 164 + 20) (e := .inl (0, msz 20, .inl (upd (a 20) n (nI x)))) (by decide))).trans (mfr.put (c := 164 + 21) (e := .inl (0, msz 21, .inl (upd (a 21) n (1 <<< (nI x &&& 31))))) (by decide))).trans (mfr.put (c := 164 + 22) (e := .inl (0, msz 22, .inl (upd (a 22) n (nI x)))) (by decide))
  have e12a : (va_up a 20 (upd (a 20) n (nI x))) 12 n = nI x := e12
  have e12b : (va_up (va_up a 20 (upd (a 20) n (nI x))) 21 (upd (a 21) n (1 <<< (nI x &&& 31)))) 12 n = nI x := e12
  generalize hb : va_up (va_up (va_up a 20 (upd (a 20) n (nI x))) 21 (upd (a 21) n (1 <<< (nI x &&& 31)))) 22 (upd (a 22) n (nI x)) = b at M3
  have b12 : b 12 n = nI x := by rw [← hb]; exact e12
  have b20 : b 20 = upd (a 20) n (nI x) := by rw [← hb]; rfl
  have b21 : b 21 = upd (a 21) n (1 <<< (nI x &&& 31)) := by rw [← hb]; rfl
  have b22 : b 22 = upd (a 22) n (nI x) := by rw [← hb]; rfl
  have b23 : b 23 = a 23 := by rw [← hb]; rfl
  have bo : ∀ k, ¬ (20 ≤ k ∧ k ≤ 22) → b k = a k := by
    intro k hk
    rw [← hb]
    simp only [va_up]
    rw [if_neg (by omega), if_neg (by omega), if_neg (by omega)]
  have loop : ∀ (k e : Nat) (T : pm_S) (g : Nat → Int32), e + k = 6 → MR T i (va_up b 23 g) r bt → mfr S T → (∀ q, q < e → g (6 * n + q) = nI x) → (∀ j, (j < 6 * n ∨ 6 * n + 6 ≤ j) → g j = a 23 j) →
      ∃ (S' : pm_S) (a' : Nat → Nat → Int32), MR S' i a' r bt ∧ mfr S S' ∧ sq_fr a a' n ∧ nd_ok a' n x x (fun _ => x) (1 <<< (nI x &&& 31)) ∧
      ∀ (t : pm_T) (L3 : Option Value), (∀ L2 L3 : Option Value, pm_to X pm_Ms (pm_run X pm_Ms PR d) (some .int) cd_Model_settle 15 ([some (.ref 163), some (.int (nI n)), L2, L3], [], S') t) → pm_to X pm_Ms (pm_run X pm_Ms PR d) (some .int) cd_Model_settle 4 ([some (.ref 163), some (.int (nI n)), some (.int (nI e)), L3], [], T) t := by
    intro k
    induction k with
    | zero =>
      intro e T g he MT FT hg1 hg2
      have e6 : e = 6 := by omega
      subst e6
      refine ⟨T, va_up b 23 g, MT, FT, ⟨?_, ?_, ?_⟩, ⟨hn, ?_, hx, ?_, hx, fun q hq => ⟨hg1 q hq, hx⟩, ?_⟩, ?_⟩
      · intro k hk
        show va_up b 23 g k = a k
        simp only [va_up]
        rw [if_neg (by omega)]
        exact bo k (by omega)
      · intro k j hj hk
        show va_up b 23 g k j = a k j
        simp only [va_up]
        rw [if_neg hk]
        by_cases h20 : 20 ≤ k ∧ k ≤ 22
        · rcases (show k = 20 ∨ k = 21 ∨ k = 22 by omega) with rfl | rfl | rfl
          · rw [b20]; simp [upd, hj]
          · rw [b21]; simp [upd, hj]
          · rw [b22]; simp [upd, hj]
        · rw [bo k h20]
      · intro j hj
        exact hg2 j hj
      · show b 20 n = nI x
        rw [b20]; simp [upd]
      · show b 22 n = nI x
        rw [b22]; simp [upd]
      · show b 21 n = _
        rw [b21]; simp [upd]
      · intro t L3 h15
        refine pm_to.blk rfl ?_
        refine pe_iload rfl ?_
        refine pe_iconst (v := 6) rfl ?_
        refine pe_icmp_ge (tgt := 6) (nx := 5) rfl rfl (fun hc4 => ?_) (fun hc4 => ?_)
        · refine pm_to.blk rfl ?_
          refine pe_goto (tgt := 15) rfl ?_
          exact h15 _ _
        · exact absurd (show (6 : Int32) ≤ nI 6 by decide) hc4
    | succ k ih =>
      intro e T g he MT FT hg1 hg2
      have ix : nI 6 * nI n + nI e = nI (6 * n + e) := by rw [pk_mul, nI_add]
      have M5 := MT.putA 23 (by decide) (upd g (6 * n + e) (nI x))
      have eU : va_up (va_up b 23 g) 23 (upd g (6 * n + e) (nI x)) = va_up b 23 (upd g (6 * n + e) (nI x)) := bx_uu _ _ _ _
      rw [eU] at M5
      obtain ⟨S', a', h1, h2, h3, h4, h5⟩ := ih (e + 1) _ _ (by omega) M5 (FT.trans (mfr.put (by decide))) (fun q hq => by
        by_cases hqe : q = e
        · subst hqe; rw [pk_us]
        · rw [pk_un (by omega)]; exact hg1 q (by omega)) (fun j hj => by rw [pk_un (by omega)]; exact hg2 j hj)
      refine ⟨S', a', h1, h2, h3, h4, fun t L3 h15 => ?_⟩
      refine pm_to.blk rfl ?_
      refine pe_iload rfl ?_
      refine pe_iconst (v := 6) rfl ?_
      refine pe_icmp_ge (tgt := 6) (nx := 5) rfl rfl (fun hc4 => ?_) (fun hc4 => ?_)
      · exact absurd hc4 (nI_ge (a := e) (b := 6) (by omega) (by decide))
      · refine pm_to.blk rfl ?_
        refine pe_aload rfl ?_
        refine pe_getf MT.o rfl rfl ?_
        refine pe_iconst (v := 6) rfl ?_
        refine pe_iload rfl ?_
        refine pe_imul ?_
        refine pe_iload rfl ?_
        refine pe_iadd ?_
        refine pe_aload rfl ?_
        refine pe_getf MT.o rfl rfl ?_
        refine pe_iload rfl ?_
        refine pe_ialdN (MT.a 12 (by decide)) rfl hn (by decide) ?_
        refine pe_iastN (MT.a 23 (by decide)) ix (by show 6 * n + e < 660; omega) (by decide) ?_
        refine pe_iinc (L' := [_, _, _, _]) rfl ((nI_succ e).symm) rfl ?_
        refine pe_goto (tgt := 4) rfl ?_
        rw [show (va_up b 23 g) 12 n = nI x from b12]
        exact h5 t L3 h15
  obtain ⟨S', a', h1, h2, h3, h4, h5⟩ := loop 6 0 _ (a 23) (by omega) (by have : va_up b 23 (a 23) = b := by { funext k; simp only [va_up]; split; (· rename_i h; rw [h, b23]); rfl }; rw [this]; exact M3) F3 (fun q hq => by omega) (fun j _ => rfl)
  refine ⟨S', a', h1, h2, h3, h4, fun t L2 L3 h15 => ?_⟩
  refine pm_to.blk rfl ?_
  refine pe_aload rfl ?_
  refine pe_getf hM.o rfl rfl ?_
  refine pe_iload rfl ?_
  refine pe_ialdN (hM.a 9 (by decide)) rfl hn (by decide) ?_
  refine pe_if_ne (tgt := 7) (nx := 3) rfl rfl (fun hc2 => ?_) (fun hc2 => ?_)
  · exact absurd e9 hc2
  · refine pm_to.blk rfl ?_
    refine pe_aload rfl ?_
    refine pe_getf hM.o rfl rfl ?_
    refine pe_iload rfl ?_
    refine pe_aload rfl ?_
    refine pe_getf hM.o rfl rfl ?_
    refine pe_iload rfl ?_
    refine pe_ialdN (hM.a 12 (by decide)) rfl hn (by decide) ?_
    refine pe_iastN (hM.a 20 (by decide)) rfl hn (by decide) ?_
    refine pe_aload rfl ?_
    refine pe_getf (by rw [e12]; exact M1.o) rfl rfl ?_
    refine pe_iload rfl ?_
    refine pe_iconst (v := 1) rfl ?_
    refine pe_aload rfl ?_
    refine pe_getf (by rw [e12]; exact M1.o) rfl rfl ?_
    refine pe_iload rfl ?_
    refine pe_ialdN (by rw [e12]; exact M1.a 12 (by decide)) rfl hn (by decide) ?_
    refine pe_ishl ?_
    refine pe_iastN (by rw [e12]; exact M1.a 21 (by decide)) rfl hn (by decide) ?_
    refine pe_aload rfl ?_
    refine pe_getf (by rw [e12a, e12]; exact M2.o) rfl rfl ?_
    refine pe_iload rfl ?_
    refine pe_aload rfl ?_
    refine pe_getf (by rw [e12a, e12]; exact M2.o) rfl rfl ?_
    refine pe_iload rfl ?_
    refine pe_ialdN (by rw [e12a, e12]; exact M2.a 12 (by decide)) rfl hn (by decide) ?_
    refine pe_iastN (by rw [e12a, e12]; exact M2.a 22 (by decide)) rfl hn (by decide) ?_
    refine pe_iconst (v := 0) rfl ?_
    refine pe_istore (L' := [_, _, _, _]) rfl ?_
    refine pe_nil (nx := 4) rfl ?_
    rw [e12b, e12a, e12]
    exact h5 t L3 h15
end
