/-! bestLie: places in a row, the row that is merged, the first of the least ones -/
def plw (l : Nat → Nat) (x : Nat) : Nat → Nat
  | 0 => 9
  | k + 1 => if l k = x then k else plw l x k
theorem plw_y {l : Nat → Nat} {n k : Nat} (h : ∀ i j, i < j → j < k → l i ≠ l j) : ∀ {i}, i < k → plw l (l i) k = i := by
  clear n
  induction k with
  | zero => intro i hi; exact absurd hi (Nat.not_lt_zero _)
  | succ k ih =>
    intro i hi
    unfold plw
    by_cases e : i = k
    · subst e; rw [if_pos rfl]
    · rw [if_neg (fun q => h i k (by omega) (by omega) q.symm)]
      exact ih (fun i j h1 h2 => h i j h1 (by omega)) (by omega)
theorem plw_n {l : Nat → Nat} {x : Nat} : ∀ k, (∀ i, i < k → l i ≠ x) → plw l x k = 9 := by
  intro k
  induction k with
  | zero => intro _; rfl
  | succ k ih =>
    intro h
    unfold plw
    rw [if_neg (h k (by omega))]
    exact ih (fun i hi => h i (by omega))
/-- the sets of a TREE's ENDS that are there, the others -/
theorem sets_chk : ∀ n, n < 8 → ∀ M, M < 2 ^ n → (spl M 7).length + (spl (2 ^ n - 1 - M) 7).length = n ∧ pc M = (spl M 7).length ∧ 2 ^ n - 1 - M < 128 ∧ nI (2 ^ n - 1) &&& (nI M ^^^ -1) = nI (2 ^ n - 1 - M) := by decide +kernel
theorem sets_btn : ∀ n, n < 8 → ∀ M, M < 2 ^ n → (List.range 7).all (fun y => decide (btn (2 ^ n - 1 - M) y) == decide (y < n ∧ ¬ btn M y)) = true := by decide +kernel
/-- two rising rows that share the ENDS below n -/
def split2 (n z zo : Nat) (e eo : Nat → Nat) : Prop := z + zo = n ∧ n ≤ 7 ∧ rsg e z ∧ rsg eo zo ∧ (∀ i, i < z → e i < n) ∧ (∀ i, i < zo → eo i < n) ∧ (∀ i j, i < z → j < zo → e i ≠ eo j) ∧ ∀ y, y < n → (∃ i, i < z ∧ e i = y) ∨ ∃ j, j < zo ∧ eo j = y
theorem split2_of {n M : Nat} (hn : n ≤ 7) (hM : M < 2 ^ n) : split2 n (spl M 7).length (spl (2 ^ n - 1 - M) 7).length (fun j => (spl M 7).getD j 0) (fun j => (spl (2 ^ n - 1 - M) 7).getD j 0) := by
  obtain ⟨c1, c2, c3, c4⟩ := sets_chk n (by omega) M hM
  have hM2 : M < 128 := Nat.lt_of_lt_of_le hM (two_lt (by omega))
  have hb : ∀ y, y < 7 → (btn (2 ^ n - 1 - M) y ↔ (y < n ∧ ¬ btn M y)) := fun y hy => by
    have := List.all_eq_true.mp (sets_btn n (by omega) M hM) y (List.mem_range.mpr hy)
    have t := beq_iff_eq.mp this
    rw [decide_eq_decide] at t
    exact t
  obtain ⟨s1, s2, s3⟩ := spl_lt (T := M) 7
  obtain ⟨t1, t2, t3⟩ := spl_lt (T := 2 ^ n - 1 - M) 7
  have hMn : ∀ y, btn M y → y < n := fun y hy => Classical.byContradiction fun q => lt_btn hM (by omega) hy
  refine ⟨c1, hn, ⟨fun i j h1 h2 => s2 i j h1 h2, fun i hi => (s1 i hi).1⟩, ⟨fun i j h1 h2 => t2 i j h1 h2, fun i hi => (t1 i hi).1⟩, fun i hi => hMn _ (s1 i hi).2, fun i hi => ((hb _ (t1 i hi).1).mp (t1 i hi).2).1, fun i j hi hj q => ?_, fun y hy => ?_⟩
  · have a := (s1 i hi).2
    have b := ((hb _ (t1 j hj).1).mp (t1 j hj).2).2
    have q' : (spl M 7).getD i 0 = (spl (2 ^ n - 1 - M) 7).getD j 0 := q
    rw [q'] at a
    exact b a
  · by_cases h : btn M y
    · exact Or.inl (s3 y (by omega) h)
    · exact Or.inr (t3 y (by omega) ((hb y (by omega)).mpr ⟨hy, h⟩))
/-- the lie's END is the next one -/
abbrev lnx (z zo : Nat) (L eo : Nat → Nat) (a b : Nat) : Prop := zo ≤ b ∨ (a < z ∧ L a < eo b)
def mga (z zo : Nat) (L eo : Nat → Nat) : Nat → Nat
  | 0 => 0
  | i + 1 => mga z zo L eo i + (if lnx z zo L eo (mga z zo L eo i) (i - mga z zo L eo i) then 1 else 0)
def mgv (z zo : Nat) (L eo : Nat → Nat) (i : Nat) : Nat := if lnx z zo L eo (mga z zo L eo i) (i - mga z zo L eo i) then L (mga z zo L eo i) else eo (i - mga z zo L eo i)
theorem mga_s {z zo i : Nat} {L eo : Nat → Nat} : mga z zo L eo (i + 1) = mga z zo L eo i + (if lnx z zo L eo (mga z zo L eo i) (i - mga z zo L eo i) then 1 else 0) := rfl
theorem mga_in {z zo : Nat} {L eo : Nat → Nat} : ∀ i, i ≤ z + zo → mga z zo L eo i ≤ z ∧ mga z zo L eo i ≤ i ∧ i - mga z zo L eo i ≤ zo := by
  intro i
  induction i with
  | zero => intro _; exact ⟨Nat.zero_le _, Nat.le_refl _, Nat.zero_le _⟩
  | succ i ih =>
    intro hi
    obtain ⟨h1, h2, h3⟩ := ih (by omega)
    rw [mga_s]
    by_cases hc : lnx z zo L eo (mga z zo L eo i) (i - mga z zo L eo i)
    · rw [if_pos hc]
      rcases hc with q | ⟨q, _⟩
      · omega
      · omega
    · rw [if_neg hc]
      have : ¬ zo ≤ i - mga z zo L eo i := fun q => hc (Or.inl q)
      omega
theorem mga_mono {z zo : Nat} {L eo : Nat → Nat} : ∀ c i, mga z zo L eo i ≤ mga z zo L eo (i + c) ∧ mga z zo L eo (i + c) ≤ mga z zo L eo i + c := by
  intro c
  induction c with
  | zero => intro i; exact ⟨Nat.le_refl _, Nat.le_refl _⟩
  | succ c ih =>
    intro i
    obtain ⟨h1, h2⟩ := ih i
    show _ ≤ mga z zo L eo (i + c + 1) ∧ mga z zo L eo (i + c + 1) ≤ _
    rw [mga_s]
    split <;> omega
theorem mga_le {z zo : Nat} {L eo : Nat → Nat} {i j : Nat} (h : i ≤ j) : mga z zo L eo i ≤ mga z zo L eo j ∧ mga z zo L eo j ≤ mga z zo L eo i + (j - i) := by
  obtain ⟨c, rfl⟩ : ∃ c, j = i + c := ⟨j - i, by omega⟩
  have := mga_mono (z := z) (zo := zo) (L := L) (eo := eo) c i
  rw [Nat.add_sub_cancel_left]
  exact this
/-- where the a-th END of the lie goes -/
theorem mga_at {z zo : Nat} {L eo : Nat → Nat} {a : Nat} (ha : a < z) : ∃ i, i < z + zo ∧ mga z zo L eo i = a ∧ lnx z zo L eo (mga z zo L eo i) (i - mga z zo L eo i) := by
  have hend := mga_in (z := z) (zo := zo) (L := L) (eo := eo) (z + zo) (Nat.le_refl _)
  obtain ⟨i, ⟨i1, i2⟩, i3⟩ := pk_least (fun i => i < z + zo ∧ a < mga z zo L eo (i + 1)) ⟨z + zo - 1, by omega, by rw [show z + zo - 1 + 1 = z + zo by omega]; omega⟩
  have hle : mga z zo L eo i ≤ a := by
    cases i with
    | zero => exact Nat.zero_le _
    | succ i => exact Nat.not_lt.mp (fun q => i3 i (Nat.lt_succ_self _) ⟨by omega, q⟩)
  have i2' : a < mga z zo L eo (i + 1) := i2
  rw [mga_s] at i2'
  by_cases hc : lnx z zo L eo (mga z zo L eo i) (i - mga z zo L eo i)
  · rw [if_pos hc] at i2'
    exact ⟨i, i1, by omega, hc⟩
  · rw [if_neg hc] at i2'
    omega
theorem mgv_ok {n z zo : Nat} {e eo p : Nat → Nat} (hs : split2 n z zo e eo) (hp : rowok z p z) : rowok n (mgv z zo (fun j => e (p j)) eo) n := by
  obtain ⟨s1, s2, s3, s4, s5, s6, s7, s8⟩ := hs
  have val : ∀ i, i < n → ((lnx z zo (fun j => e (p j)) eo (mga z zo (fun j => e (p j)) eo i) (i - mga z zo (fun j => e (p j)) eo i)) ∧ mga z zo (fun j => e (p j)) eo i < z ∧ mgv z zo (fun j => e (p j)) eo i = e (p (mga z zo (fun j => e (p j)) eo i)) ∧ mga z zo (fun j => e (p j)) eo (i + 1) = mga z zo (fun j => e (p j)) eo i + 1) ∨ (i - mga z zo (fun j => e (p j)) eo i < zo ∧ mgv z zo (fun j => e (p j)) eo i = eo (i - mga z zo (fun j => e (p j)) eo i) ∧ mga z zo (fun j => e (p j)) eo (i + 1) = mga z zo (fun j => e (p j)) eo i) := fun i hi => by
    obtain ⟨h1, h2, h3⟩ := mga_in (z := z) (zo := zo) (L := fun j => e (p j)) (eo := eo) i (by omega)
    by_cases hc : lnx z zo (fun j => e (p j)) eo (mga z zo (fun j => e (p j)) eo i) (i - mga z zo (fun j => e (p j)) eo i)
    · refine Or.inl ⟨hc, ?_, if_pos hc, by rw [mga_s, if_pos hc]⟩
      rcases hc with q | ⟨q, _⟩
      · omega
      · exact q
    · exact Or.inr ⟨Nat.not_le.mp (fun q => hc (Or.inl q)), if_neg hc, by rw [mga_s, if_neg hc]; rfl⟩
  refine ⟨fun i hi => ?_, fun i j hij hj => ?_⟩
  · rcases val i hi with ⟨_, h1, h2, _⟩ | ⟨h1, h2, _⟩
    · rw [h2]; exact s5 _ (hp.1 _ h1)
    · rw [h2]; exact s6 _ h1
  · have hm := mga_le (z := z) (zo := zo) (L := fun j => e (p j)) (eo := eo) (show i + 1 ≤ j by omega)
    have hi2 := mga_in (z := z) (zo := zo) (L := fun j => e (p j)) (eo := eo) i (by omega)
    have hj2 := mga_in (z := z) (zo := zo) (L := fun j => e (p j)) (eo := eo) j (by omega)
    rcases val i (by omega) with ⟨_, h1, h2, h3⟩ | ⟨h1, h2, h3⟩ <;> rcases val j hj with ⟨_, g1, g2, g3⟩ | ⟨g1, g2, g3⟩
    · rw [h2, g2]
      intro q
      have hne := hp.2 _ _ (show mga z zo (fun j => e (p j)) eo i < mga z zo (fun j => e (p j)) eo j by omega) g1
      have b1 := hp.1 _ h1
      have b2 := hp.1 _ g1
      rcases Nat.lt_or_gt_of_ne hne with t | t
      · have := s3.1 _ _ t b2; omega
      · have := s3.1 _ _ t b1; omega
    · rw [h2, g2]; exact s7 _ _ (hp.1 _ h1) g1
    · rw [h2, g2]; exact fun q => s7 _ _ (hp.1 _ g1) h1 q.symm
    · rw [h2, g2]
      intro q
      have := s4.1 _ _ (show i - mga z zo (fun j => e (p j)) eo i < j - mga z zo (fun j => e (p j)) eo j by omega) g1
      omega
/-- the ENDS of the lie stand in the row in the lie's order -/
def cmpt (n z : Nat) (e r p : Nat → Nat) : Prop := ∀ i j, i < j → j < z → plw r (e (p i)) n < plw r (e (p j)) n
theorem mgv_cm {n z zo : Nat} {e eo p : Nat → Nat} (hs : split2 n z zo e eo) (hp : rowok z p z) : cmpt n z e (mgv z zo (fun j => e (p j)) eo) p := by
  have hr := mgv_ok hs hp
  intro i j hij hj
  have hn : z + zo = n := hs.1
  obtain ⟨i0, a1, a2, a3⟩ := mga_at (zo := zo) (L := fun j => e (p j)) (eo := eo) (show i < z by omega)
  obtain ⟨j0, b1, b2, b3⟩ := mga_at (zo := zo) (L := fun j => e (p j)) (eo := eo) hj
  have e1 : mgv z zo (fun j => e (p j)) eo i0 = e (p i) := by unfold mgv; rw [if_pos a3, a2]
  have e2 : mgv z zo (fun j => e (p j)) eo j0 = e (p j) := by unfold mgv; rw [if_pos b3, b2]
  rw [← e1, ← e2, plw_y (n := n) hr.2 (by omega), plw_y (n := n) hr.2 (by omega)]
  refine Nat.not_le.mp (fun q => ?_)
  have := (mga_le (z := z) (zo := zo) (L := fun j => e (p j)) (eo := eo) q).1
  omega
theorem row_at {n y : Nat} {r : Nat → Nat} (h : rowok n r n) (hy : y < n) : plw r y n < n ∧ r (plw r y n) = y := by
  obtain ⟨j, h1, h2⟩ := row_full h hy
  rw [← h2, plw_y (n := n) h.2 h1]
  exact ⟨h1, rfl⟩
/-- a row that is ahead of the merged one tells a lie that is ahead -/
theorem mgv_lex {n z zo i : Nat} {e eo p q r : Nat → Nat} (hs : split2 n z zo e eo) (hp : rowok z p z) (hq : rowok z q z) (hr : rowok n r n) (hc : cmpt n z e r p) (hi : i < n) (h : ∀ j, j < i → r j = mgv z zo (fun j => e (q j)) eo j) (hlt : r i < mgv z zo (fun j => e (q j)) eo i) : ∃ a, a < z ∧ (∀ j, j < a → p j = q j) ∧ p a < q a := by
  have hm := mgv_ok hs hq
  obtain ⟨s1, s2, s3, s4, s5, s6, s7, s8⟩ := hs
  obtain ⟨a, ha⟩ : ∃ a, a = mga z zo (fun j => e (q j)) eo i := ⟨_, rfl⟩
  obtain ⟨i1, i2, i3⟩ := mga_in (z := z) (zo := zo) (L := fun j => e (q j)) (eo := eo) i (by omega)
  rw [← ha] at i1 i2 i3
  -- the lie's ENDS below place i
  have low : ∀ s, s < a → ∃ k, k < i ∧ r k = e (q s) := fun s hs' => by
    obtain ⟨k, k1, k2, k3⟩ := mga_at (zo := zo) (L := fun j => e (q j)) (eo := eo) (show s < z by omega)
    have hki : k < i := Nat.not_le.mp (fun t => by
      have := (mga_le (z := z) (zo := zo) (L := fun j => e (q j)) (eo := eo) t).1
      omega)
    refine ⟨k, hki, ?_⟩
    rw [h k hki]
    unfold mgv
    rw [if_pos k3, k2]
  have low2 : ∀ k, k < i → ∀ x, x < z → r k = e x → ∃ s, s < a ∧ q s = x := fun k hk x hx hrk => by
    rw [h k hk] at hrk
    obtain ⟨k1, k2, k3⟩ := mga_in (z := z) (zo := zo) (L := fun j => e (q j)) (eo := eo) k (by omega)
    have hle := (mga_le (z := z) (zo := zo) (L := fun j => e (q j)) (eo := eo) (show k + 1 ≤ i by omega)).1
    rw [mga_s] at hle
    unfold mgv at hrk
    by_cases hl : lnx z zo (fun j => e (q j)) eo (mga z zo (fun j => e (q j)) eo k) (k - mga z zo (fun j => e (q j)) eo k)
    · rw [if_pos hl] at hrk hle
      have hk' : mga z zo (fun j => e (q j)) eo k < z := by
        rcases hl with t | ⟨t, _⟩
        · omega
        · exact t
      refine ⟨mga z zo (fun j => e (q j)) eo k, by omega, ?_⟩
      have b1 := hq.1 _ hk'
      have hrk' : e (q (mga z zo (fun j => e (q j)) eo k)) = e x := hrk
      rcases Nat.lt_trichotomy (q (mga z zo (fun j => e (q j)) eo k)) x with t | t | t
      · have := s3.1 _ _ t hx; omega
      · exact t
      · have := s3.1 _ _ t b1; omega
    · rw [if_neg hl] at hrk
      have : ¬ zo ≤ k - mga z zo (fun j => e (q j)) eo k := fun t => hl (Or.inl t)
      exact absurd hrk.symm (s7 _ _ hx (by omega))
  have plc : ∀ k, k < n → plw r (r k) n = k := fun k hk => plw_y (n := n) hr.2 hk
  have inv : ∀ t, t < z → (∃ k, k < i ∧ r k = e (p t)) ∨ (∃ k, i ≤ k ∧ k < n ∧ r k = e (p t)) := fun t ht => by
    obtain ⟨k1, k2⟩ := row_at hr (s5 _ (hp.1 t ht))
    by_cases hk : plw r (e (p t)) n < i
    · exact Or.inl ⟨_, hk, k2⟩
    · exact Or.inr ⟨_, by omega, k1, k2⟩
  have pof : ∀ s, s < a → ∃ t, t < z ∧ p t = q s := fun s hs' => row_full hp (hq.1 s (by omega))
  rcases s8 (r i) (hr.1 i hi) with ⟨x, hx, hx2⟩ | ⟨c, hc1, hc2⟩
  · obtain ⟨t, ht, htx⟩ := row_full hp hx
    have hpt : plw r (e (p t)) n = i := by rw [htx, hx2]; exact plc i hi
    -- below both, the lies are one
    have same : ∀ s, s < a → s < t → p s = q s := by
      intro s
      induction s using Nat.strongRecOn with
      | _ s ih =>
        intro hsa hst
        have hps : plw r (e (p s)) n < i := by rw [← hpt]; exact hc s t hst ht
        have hsz : s < z := by omega
        obtain ⟨k1, k2⟩ := row_at hr (s5 _ (hp.1 s hsz))
        obtain ⟨s2', u1, u2⟩ := low2 _ hps (p s) (hp.1 s hsz) k2
        rcases Nat.lt_trichotomy s2' s with v | v | v
        · exfalso
          have := ih s2' v u1 (by omega)
          exact hp.2 s2' s v hsz (by rw [this, u2])
        · subst v; exact u2.symm
        · exfalso
          obtain ⟨k3, k4, k5⟩ := low s hsa
          obtain ⟨s4', w1, w2⟩ := pof s hsa
          have hk3 : plw r (e (p s4')) n = k3 := by rw [w2, ← k5]; exact plc k3 (by omega)
          -- place of q s is ahead of that of q s2'
          obtain ⟨x1, y1, y2, y3⟩ := mga_at (zo := zo) (L := fun j => e (q j)) (eo := eo) hsz
          obtain ⟨x2, z1, z2, z3⟩ := mga_at (zo := zo) (L := fun j => e (q j)) (eo := eo) (show s2' < z by omega)
          have hx12 : x1 < x2 := Nat.not_le.mp (fun t => by
            have := (mga_le (z := z) (zo := zo) (L := fun j => e (q j)) (eo := eo) t).1
            omega)
          have hx2i : x2 < i := Nat.not_le.mp (fun t => by
            have := (mga_le (z := z) (zo := zo) (L := fun j => e (q j)) (eo := eo) t).1
            omega)
          have r1 : r x1 = e (q s) := by rw [h x1 (by omega)]; unfold mgv; rw [if_pos y3, y2]
          have r2 : r x2 = e (q s2') := by rw [h x2 hx2i]; unfold mgv; rw [if_pos z3, z2]
          have p1 : plw r (e (p s4')) n = x1 := by rw [w2, ← r1]; exact plc x1 (by omega)
          have p2 : plw r (e (p s)) n = x2 := by rw [← u2, ← r2]; exact plc x2 (by omega)
          have hs4 : s4' < s := Nat.not_le.mp (fun t => by
            rcases Nat.eq_or_lt_of_le t with t | t
            · subst t; omega
            · have := hc s s4' t w1; omega)
          have := ih s4' hs4 (by omega) (by omega)
          exact hq.2 s4' s hs4 (by omega) (by rw [← this, w2])
    have hta : t = a := by
      rcases Nat.lt_trichotomy t a with v | v | v
      · exfalso
        obtain ⟨k, k1, k2⟩ := low t v
        obtain ⟨s4', w1, w2⟩ := pof t v
        have p1 : plw r (e (p s4')) n = k := by rw [w2, ← k2]; exact plc k (by omega)
        have hs4 : s4' < t := Nat.not_le.mp (fun t' => by
          rcases Nat.eq_or_lt_of_le t' with t' | t'
          · subst t'; omega
          · have := hc t s4' t' w1; omega)
        have := same s4' (by omega) hs4
        exact hq.2 s4' t hs4 (by omega) (by rw [← this, w2])
      · exact v
      · exfalso
        have hps : plw r (e (p a)) n < i := by rw [← hpt]; exact hc a t v ht
        have haz : a < z := by omega
        obtain ⟨k1, k2⟩ := row_at hr (s5 _ (hp.1 a haz))
        obtain ⟨s2', u1, u2⟩ := low2 _ hps (p a) (hp.1 a haz) k2
        have := same s2' u1 (by omega)
        exact hp.2 s2' a u1 haz (by rw [this, u2])
    subst hta
    refine ⟨t, ht, fun j hj => same j hj hj, ?_⟩
    have hle : e (p t) < e (q t) := by
      rw [htx, hx2]
      unfold mgv at hlt
      rw [← ha] at hlt
      by_cases hl : lnx z zo (fun j => e (q j)) eo t (i - t)
      · rw [if_pos hl] at hlt; exact hlt
      · rw [if_neg hl] at hlt
        have : ¬ e (q t) < eo (i - t) := fun w => hl (Or.inr ⟨ht, w⟩)
        omega
    exact (s3.le (hp.1 t ht) (hq.1 t ht)).mp hle
  · exfalso
    unfold mgv at hlt
    rw [← ha] at hlt
    -- the others below place i are the first ones
    have others : ∀ d, d < i - a → ∃ k, k < i ∧ r k = eo d := by
      intro d hd
      have hend : i - mga z zo (fun j => e (q j)) eo i = i - a := by rw [ha]
      obtain ⟨k, ⟨k1, k2⟩, k3⟩ := pk_least (fun k => k < i ∧ d < k + 1 - mga z zo (fun j => e (q j)) eo (k + 1)) ⟨i - 1, by omega, by rw [show i - 1 + 1 = i by omega, ← ha]; exact hd⟩
      have k2' : d < k + 1 - mga z zo (fun j => e (q j)) eo (k + 1) := k2
      have hle : k - mga z zo (fun j => e (q j)) eo k ≤ d := by
        cases k with
        | zero => exact Nat.le_trans (Nat.sub_le _ _) (Nat.zero_le _)
        | succ k => exact Nat.not_lt.mp (fun w => k3 k (Nat.lt_succ_self _) ⟨by omega, w⟩)
      obtain ⟨m1, m2, m3⟩ := mga_in (z := z) (zo := zo) (L := fun j => e (q j)) (eo := eo) k (by omega)
      rw [mga_s] at k2'
      by_cases hl : lnx z zo (fun j => e (q j)) eo (mga z zo (fun j => e (q j)) eo k) (k - mga z zo (fun j => e (q j)) eo k)
      · rw [if_pos hl] at k2'; omega
      · rw [if_neg hl] at k2'
        refine ⟨k, k1, ?_⟩
        rw [h k k1]
        unfold mgv
        rw [if_neg hl, show k - mga z zo (fun j => e (q j)) eo k = d by omega]
    have hcb : i - a ≤ c := Nat.not_lt.mp (fun w => by
      obtain ⟨k, k1, k2⟩ := others c w
      exact hr.2 k i k1 hi (by rw [k2, hc2]))
    have heo : eo (i - a) ≤ r i := by
      rw [← hc2]
      rcases Nat.eq_or_lt_of_le hcb with w | w
      · rw [w]; exact Nat.le_refl _
      · exact Nat.le_of_lt (s4.1 _ _ w hc1)
    by_cases hl : lnx z zo (fun j => e (q j)) eo a (i - a)
    · rw [if_pos hl] at hlt
      rcases hl with w | ⟨_, w⟩
      · omega
      · have w' : e (q a) < eo (i - a) := w
        have hlt' : r i < e (q a) := hlt
        omega
    · rw [if_neg hl] at hlt; omega
/-- each row tells some lie -/
theorem cm_ex {n z zo : Nat} {e eo r : Nat → Nat} (hs : split2 n z zo e eo) (hr : rowok n r n) : ∃ p, rowok z p z ∧ cmpt n z e r p := by
  obtain ⟨s1, s2, s3, s4, s5, s6, s7, s8⟩ := hs
  obtain ⟨p, h1, h2⟩ := us_ex z (fun a => nI (9 - plw r (e a) n)) z (Nat.le_refl _)
  refine ⟨p, h1, fun i j hij hj => ?_⟩
  have b1 := h1.1 i (by omega)
  have b2 := h1.1 j hj
  obtain ⟨k1, k2⟩ := row_at hr (s5 _ b1)
  obtain ⟨k3, k4⟩ := row_at hr (s5 _ b2)
  have hbt := h2 i (by omega) (p j) b2 (fun k hk => h1.2 k j (by omega) hj)
  rcases hbt with q | ⟨q, -⟩
  · have := (nI_ltI (a := 9 - plw r (e (p j)) n) (b := 9 - plw r (e (p i)) n) (by omega) (by omega)).mp q
    omega
  · have q' := (nI_eq (a := 9 - plw r (e (p i)) n) (b := 9 - plw r (e (p j)) n) (by omega) (by omega)).mp q
    have : plw r (e (p i)) n = plw r (e (p j)) n := by omega
    rw [this, k4] at k2
    exfalso
    rcases Nat.lt_or_gt_of_ne (h1.2 i j hij hj) with t | t
    · have := s3.1 _ _ t b2; omega
    · have := s3.1 _ _ t b1; omega
