/-! bestLie: what comes of a lie; the class finds the first of the least ones -/
theorem gval_vE {W W' : VW} {D : TD} {E : Nat → Prop} (hD : tdOK D) (hE : ∀ e, (sdb D.1 D.2.2.2.1 e ∨ akb D.1 D.2.2.2.1 e) → E e) (hv : veq E W W') (hu : ∀ m, m < gN W → gK W m = 2 → gU W m < 6) : ∀ k n, n + k = D.2.2.2.1 → n < D.2.2.2.1 → nve (gval W D.2.1 (D.2.2.1 n)) (gval W' D.2.1 (D.2.2.1 n)) := by
  have hDD := (ceq_of hD hE (veq.rf W) hu).2
  obtain ⟨hK0, hK, hpre, htr, ⟨i1, i2, i3, i4⟩, -⟩ := hD
  intro k
  induction k using Nat.strongRecOn with
  | _ k ih =>
    intro n hn hnK
    obtain ⟨p1, p2, p3, p4⟩ := hpre n hnK
    obtain ⟨u1, u2, u3, u4, u5⟩ := i4 n hnK
    rcases (show (D.1 n).1 = 0 ∨ (D.1 n).1 = 1 ∨ (D.1 n).1 = 2 by omega) with h0 | h0 | h0
    · rw [gval_0 (u1.trans h0), gval_0 (u1.trans h0)]
      exact nve.rf _
    · obtain ⟨q1, q2, q3⟩ := p4 (by omega)
      rw [gval_1 htr (i2 n hnK) (u1.trans h0), gval_1 htr (i2 n hnK) (u1.trans h0), (u4 (by omega)).1, (u4 (by omega)).2]
      exact hv.q hu (hDD _ q1) (hDD _ q3) (ih (D.2.2.2.1 - (n + 1)) (by omega) (n + 1) (by omega) q1) (ih (D.2.2.2.1 - (D.1 n).2.2.1) (by omega) _ (by omega) q3)
    · obtain ⟨q1, q2, q3⟩ := p4 (by omega)
      rw [gval_2 htr (i2 n hnK) (u1.trans h0), gval_2 htr (i2 n hnK) (u1.trans h0), (u4 (by omega)).1, (u4 (by omega)).2, u2 (by omega), u3 h0]
      exact hv.c (hE _ (Or.inr ⟨n, hnK, h0, Or.inl rfl⟩)) (hE _ (Or.inr ⟨n, hnK, h0, Or.inr rfl⟩)) (ih (D.2.2.2.1 - (n + 1)) (by omega) (n + 1) (by omega) q1) (ih (D.2.2.2.1 - (D.1 n).2.2.1) (by omega) _ (by omega) q3)
theorem gval_sd {W : VW} {D : TD} (hD : tdOK D) : ∀ k n, n + k = D.2.2.2.1 → n < D.2.2.2.1 → nvD (fun x => sdb D.1 D.2.2.2.1 x) (gval W D.2.1 (D.2.2.1 n)) := by
  obtain ⟨hK0, hK, hpre, htr, ⟨i1, i2, i3, i4⟩, -⟩ := hD
  intro k
  induction k using Nat.strongRecOn with
  | _ k ih =>
    intro n hn hnK
    obtain ⟨p1, p2, p3, p4⟩ := hpre n hnK
    obtain ⟨u1, u2, u3, u4, u5⟩ := i4 n hnK
    rcases (show (D.1 n).1 = 0 ∨ (D.1 n).1 = 1 ∨ (D.1 n).1 = 2 by omega) with h0 | h0 | h0
    · rw [gval_0 (u1.trans h0), u2 (by omega)]
      exact leaf_D (D := fun x => sdb D.1 D.2.2.2.1 x) ⟨n, hnK, h0, rfl⟩
    · obtain ⟨q1, q2, q3⟩ := p4 (by omega)
      rw [gval_1 htr (i2 n hnK) (u1.trans h0), (u4 (by omega)).1, (u4 (by omega)).2]
      exact gq_D (ih (D.2.2.2.1 - (n + 1)) (by omega) (n + 1) (by omega) q1) (ih (D.2.2.2.1 - (D.1 n).2.2.1) (by omega) _ (by omega) q3)
    · obtain ⟨q1, q2, q3⟩ := p4 (by omega)
      rw [gval_2 htr (i2 n hnK) (u1.trans h0), (u4 (by omega)).1, (u4 (by omega)).2]
      exact gc_D (ih (D.2.2.2.1 - (n + 1)) (by omega) (n + 1) (by omega) q1) (ih (D.2.2.2.1 - (D.1 n).2.2.1) (by omega) _ (by omega) q3)
/-- wishes that tell a lie -/
def tlk (E : Nat → Prop) (n z : Nat) (e p : Nat → Nat) (f : Nat → Int32) : Prop := (∀ s t, s < t → t < z → f (e (p s)) < f (e (p t))) ∧ (∀ s, s < z → f (e (p s)) < 9) ∧ ∀ x, E x → n ≤ x → f x = 9
theorem tlk_sgn {E : Nat → Prop} {n z : Nat} {e p : Nat → Nat} {f f' : Nat → Int32} (h : tlk E n z e p f) (h' : tlk E n z e p f') (hin : ∀ x, E x → x < n → ∃ s, s < z ∧ e (p s) = x) {x y : Nat} (hx : E x) (hy : E y) : sgn (f x) (f y) = sgn (f' x) (f' y) := by
  have lt1 : ∀ a b : Int32, a < b → sgn a b = 1 := fun a b q => sgn_lt.mpr q
  have gt1 : ∀ a b : Int32, b < a → sgn a b = -1 := fun a b q => sgn_gt.mpr q
  have eq1 : ∀ a : Int32, sgn a a = 0 := fun a => by unfold sgn; rw [if_neg Int32.lt_irrefl, if_neg Int32.lt_irrefl]
  obtain ⟨a1, a2, a3⟩ := h
  obtain ⟨b1, b2, b3⟩ := h'
  by_cases hxn : x < n
  · obtain ⟨s, s1, s2⟩ := hin x hx hxn
    by_cases hyn : y < n
    · obtain ⟨t, t1, t2⟩ := hin y hy hyn
      rw [← s2, ← t2]
      rcases Nat.lt_trichotomy s t with q | q | q
      · rw [lt1 _ _ (a1 s t q t1), lt1 _ _ (b1 s t q t1)]
      · subst q; rw [eq1, eq1]
      · rw [gt1 _ _ (a1 t s q s1), gt1 _ _ (b1 t s q s1)]
    · rw [a3 y hy (by omega), b3 y hy (by omega), ← s2, lt1 _ _ (a2 s s1), lt1 _ _ (b2 s s1)]
  · rw [a3 x hx (by omega), b3 x hx (by omega)]
    by_cases hyn : y < n
    · obtain ⟨t, t1, t2⟩ := hin y hy hyn
      rw [← t2, gt1 _ _ (a2 t t1), gt1 _ _ (b2 t t1)]
    · rw [a3 y hy (by omega), b3 y hy (by omega)]
/-- the ENDS that matter -/
def mtt (D : TD) (n : Nat) : Nat := (D.2.2.2.2.2.1 ||| D.2.2.2.2.2.2) &&& (2 ^ n - 1)
theorem mtt_lt {D : TD} {n : Nat} : mtt D n < 2 ^ n := by
  have h1 : mtt D n ≤ 2 ^ n - 1 := Nat.and_le_right
  have : 0 < 2 ^ n := Nat.pow_pos (by omega)
  omega
theorem mtt_bit {D : TD} {n y : Nat} (hD : tdOK D) (hn : n ≤ 7) (hy : y < n) (h : sdb D.1 D.2.2.2.1 y ∨ akb D.1 D.2.2.2.1 y) : btn (mtt D n) y := by
  obtain ⟨-, -, -, -, -, -, hs, ha, hb, -⟩ := hD
  obtain ⟨b1, b2⟩ := hb y (by omega)
  have h1 : btn (D.2.2.2.2.2.1 ||| D.2.2.2.2.2.2) y := btn_or2.mpr (h.elim (fun q => Or.inl (b1.mpr q)) (fun q => Or.inr (b2.mpr q)))
  have h2 := ((all_bit n (by omega)).1 y (by omega)).mpr hy
  rw [btn_tb] at h1 h2 ⊢
  unfold mtt
  rw [Nat.testBit_and, h1, h2]; rfl
/-- what comes of a row told -/
def blv (C : Nat → Nat) (m : Nat) (D : TD) (r : Nat → Nat) : Nat := (gval (wLie (cvw C) m (fun x => nI (plw r x (C 0)))) D.2.1 (D.2.2.2.1 - 1)).2.1
/-- a member's lie is set up -/
def lset (C : Nat → Nat) (D : TD) (z zo : Nat) (e eo : Nat → Nat) : Prop := tdOK D ∧ CB C ∧ split2 (C 0) z zo e eo ∧ z = (spl (mtt D (C 0)) 7).length ∧ zo = (spl (2 ^ C 0 - 1 - mtt D (C 0)) 7).length ∧ (∀ j, e j = (spl (mtt D (C 0)) 7).getD j 0) ∧ (∀ j, eo j = (spl (2 ^ C 0 - 1 - mtt D (C 0)) 7).getD j 0)
theorem lset_ex {C : Nat → Nat} {D : TD} (hD : tdOK D) (hC : CB C) : ∃ z zo e eo, lset C D z zo e eo := ⟨_, _, fun j => (spl (mtt D (C 0)) 7).getD j 0, fun j => (spl (2 ^ C 0 - 1 - mtt D (C 0)) 7).getD j 0, hD, hC, split2_of hC.2.1 mtt_lt, rfl, rfl, fun _ => rfl, fun _ => rfl⟩
abbrev tE (D : TD) (x : Nat) : Prop := sdb D.1 D.2.2.2.1 x ∨ akb D.1 D.2.2.2.1 x
theorem lset.inn {C : Nat → Nat} {D : TD} {z zo : Nat} {e eo p : Nat → Nat} (h : lset C D z zo e eo) (hp : rowok z p z) : ∀ x, tE D x → x < C 0 → ∃ s, s < z ∧ e (p s) = x := by
  obtain ⟨h1, h2, h3, h4, h5, h6, h7⟩ := h
  intro x hx hxn
  have hn := h2.2.1
  have hb := mtt_bit h1 hn hxn hx
  obtain ⟨i, i1, i2⟩ := (spl_lt (T := mtt D (C 0)) 7).2.2 x (by omega) hb
  obtain ⟨s, s1, s2⟩ := row_full hp (show i < z by omega)
  exact ⟨s, s1, by rw [s2, h6 i]; exact i2⟩
theorem tlk_row {C : Nat → Nat} {D : TD} {z zo : Nat} {e eo p r : Nat → Nat} (h : lset C D z zo e eo) (hp : rowok z p z) (hr : rowok (C 0) r (C 0)) (hc : cmpt (C 0) z e r p) : tlk (tE D) (C 0) z e p (fun x => nI (plw r x (C 0))) := by
  obtain ⟨h1, h2, h3, -⟩ := h
  have hn := h2.2.1
  have lt : ∀ s, s < z → plw r (e (p s)) (C 0) < C 0 := fun s hs => (row_at hr (h3.2.2.2.2.1 _ (hp.1 s hs))).1
  refine ⟨fun s t hst ht => ?_, fun s hs => ?_, fun x hx hxn => ?_⟩
  · have := lt t ht
    exact nI_lt (hc s t hst ht) (by omega)
  · have := lt s hs
    exact nI_lt (b := 9) (by omega) (by decide)
  · show nI (plw r x (C 0)) = 9
    rw [plw_n _ (fun i hi q => by have := hr.1 i hi; omega)]
    rfl
theorem blv_of {C : Nat → Nat} {m : Nat} {D : TD} {z zo : Nat} {e eo p r : Nat → Nat} {f : Nat → Int32} (h : lset C D z zo e eo) (hp : rowok z p z) (hr : rowok (C 0) r (C 0)) (hc : cmpt (C 0) z e r p) (hf : tlk (tE D) (C 0) z e p f) : veq (tE D) (wLie (cvw C) m f) (wLie (cvw C) m (fun x => nI (plw r x (C 0)))) := by
  refine ⟨rfl, rfl, fun m' hm' => ⟨rfl, rfl, fun _ => rfl, fun _ => rfl, fun _ => rfl, fun x y hx hy => ?_⟩⟩
  by_cases e1 : m' = m
  · subst e1
    show sgn (if m' = m' then f x else _) (if m' = m' then f y else _) = sgn (if m' = m' then nI (plw r x (C 0)) else _) (if m' = m' then nI (plw r y (C 0)) else _)
    rw [if_pos rfl, if_pos rfl, if_pos rfl, if_pos rfl]
    exact tlk_sgn hf (tlk_row h hp hr hc) (h.inn hp) hx hy
  · show sgn (if m' = m then f x else _) (if m' = m then f y else _) = sgn (if m' = m then nI (plw r x (C 0)) else _) (if m' = m then nI (plw r y (C 0)) else _)
    rw [if_neg e1, if_neg e1, if_neg e1, if_neg e1]
theorem blv_eq {C : Nat → Nat} {m : Nat} {D : TD} {z zo : Nat} {e eo p r r' : Nat → Nat} (h : lset C D z zo e eo) (hp : rowok z p z) (hr : rowok (C 0) r (C 0)) (hc : cmpt (C 0) z e r p) (hr' : rowok (C 0) r' (C 0)) (hc' : cmpt (C 0) z e r' p) : blv C m D r = blv C m D r' := by
  have hv := blv_of (m := m) h hp hr' hc' (tlk_row h hp hr hc)
  have hD := h.1
  have := gval_vE hD (E := tE D) (fun e he => he) hv (wLie_ok (cvw_ok5 h.2.1)).u D.2.2.2.1 0 (by omega) hD.1
  rw [hD.2.2.2.2.1.1] at this
  exact this.2.1
theorem blv_in {C : Nat → Nat} {m : Nat} {D : TD} {r : Nat → Nat} (hD : tdOK D) : blv C m D r < 7 ∧ btn D.2.2.2.2.2.1 (blv C m D r) := by
  have := gval_sd (W := wLie (cvw C) m (fun x => nI (plw r x (C 0)))) hD D.2.2.2.1 0 (by omega) hD.1
  rw [hD.2.2.2.2.1.1] at this
  have h2 : sdb D.1 D.2.2.2.1 (blv C m D r) := this.2.1
  have h7 := tdE hD _ (Or.inl h2)
  exact ⟨h7, (hD.2.2.2.2.2.2.2.2.1 _ h7).1.mpr h2⟩
/-- the row merged of the k-th lie -/
noncomputable def mgk (z zo : Nat) (e eo : Nat → Nat) (k : Nat) : Nat → Nat := mgv z zo (fun j => e (prow z k j)) eo
noncomputable def blu (C : Nat → Nat) (m : Nat) (D : TD) (z zo : Nat) (e eo : Nat → Nat) (k : Nat) : Nat := C (60 + 7 * m + blv C m D (mgk z zo e eo k))
theorem least_first (f : Nat → Nat) : ∀ n, 0 < n → ∃ k, k < n ∧ (∀ j, j < n → f k ≤ f j) ∧ ∀ j, j < k → f k < f j := by
  intro n
  induction n with
  | zero => intro h; omega
  | succ n ih =>
    intro _
    rcases Nat.eq_zero_or_pos n with h | h
    · subst h
      exact ⟨0, by omega, fun j hj => by rw [show j = 0 by omega]; exact Nat.le_refl _, fun j hj => by omega⟩
    · obtain ⟨k, k1, k2, k3⟩ := ih h
      by_cases hc : f n < f k
      · refine ⟨n, by omega, fun j hj => ?_, fun j hj => ?_⟩
        · by_cases e : j = n
          · rw [e]; exact Nat.le_refl _
          · have := k2 j (by omega); omega
        · have := k2 j hj; omega
      · refine ⟨k, by omega, fun j hj => ?_, k3⟩
        by_cases e : j = n
        · rw [e]; omega
        · exact k2 j (by omega)
/-- the reference's first row of the least ones is the merged one -/
theorem lie_first {C : Nat → Nat} {m : Nat} {D : TD} {z zo k0 : Nat} {e eo : Nat → Nat} (h : lset C D z zo e eo) (hk : k0 < fct z) (h1 : ∀ k, k < fct z → blu C m D z zo e eo k0 ≤ blu C m D z zo e eo k) (h2 : ∀ k, k < k0 → blu C m D z zo e eo k0 < blu C m D z zo e eo k) : ∃ K1, K1 < fct (C 0) ∧ (∀ j, j < C 0 → prow (C 0) K1 j = mgk z zo e eo k0 j) ∧ (∀ r, rowok (C 0) r (C 0) → blu C m D z zo e eo k0 ≤ C (60 + 7 * m + blv C m D r)) ∧ ∀ K, K < K1 → blu C m D z zo e eo k0 < C (60 + 7 * m + blv C m D (prow (C 0) K)) := by
  have hs := h.2.2.1
  have hn := h.2.1.2.1
  have hz7 : z ≤ 7 := by have := hs.1; omega
  have hp0 := (prow_ok hz7 hk).1
  have hm0 := mgv_ok hs hp0
  obtain ⟨K1, e1⟩ := prow_of hn hm0
  have u_of : ∀ r, rowok (C 0) r (C 0) → ∀ p, rowok z p z → cmpt (C 0) z e r p → C (60 + 7 * m + blv C m D r) = blu C m D z zo e eo (rkr p z z) := fun r hr p hp hc => by
    obtain ⟨a1, a2⟩ := prow_of hz7 hp
    have hc' : cmpt (C 0) z e r (prow z (rkr p z z)) := fun i j hij hj => by rw [a2 i (by omega), a2 j hj]; exact hc i j hij hj
    have hpr := (prow_ok hz7 a1).1
    unfold blu mgk
    rw [blv_eq h hpr hr hc' (mgv_ok hs hpr) (mgv_cm hs hpr)]
  refine ⟨_, K1, e1, fun r hr => ?_, fun K hK => ?_⟩
  · obtain ⟨p, p1, p2⟩ := cm_ex hs hr
    rw [u_of r hr p p1 p2]
    exact h1 _ (prow_of hz7 p1).1
  · obtain ⟨o1, o2⟩ := prow_ok hn (show K < fct (C 0) by omega)
    obtain ⟨p, p1, p2⟩ := cm_ex hs o1
    rw [u_of _ o1 p p1 p2]
    refine h2 _ ?_
    rcases row_tri (prow (C 0) K) (mgk z zo e eo k0) (C 0) with t | ⟨i, i1, i2, i3 | i3⟩
    · have := rkr_cg t
      rw [o2] at this
      have : K = rkr (mgv z zo (fun j => e (prow z k0 j)) eo) (C 0) (C 0) := this
      omega
    · obtain ⟨a, a1, a2, a3⟩ := mgv_lex hs p1 hp0 o1 p2 i1 i2 i3
      have := rkr_lex hz7 p1 a1 a2 a3
      rw [(prow_ok hz7 hk).2] at this
      exact this
    · have := rkr_lex hn hm0 i1 (fun j hj => (i2 j hj).symm) i3
      rw [o2] at this
      omega
