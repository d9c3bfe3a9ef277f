/-! who votes, for both sides: a view (how many, the chair, kinds, voices, parties, steps, ends, wishes); what comes of a node by it -/
abbrev VW : Type := Nat × Int32 × (Nat → Int32) × (Nat → Int32) × (Nat → Int32) × (Nat → Nat) × (Nat → Int32) × (Nat → Nat → Int32)
def gN (W : VW) : Nat := W.1
def gC (W : VW) : Int32 := W.2.1
def gK (W : VW) : Nat → Int32 := W.2.2.1
def gV (W : VW) : Nat → Int32 := W.2.2.2.1
def gP (W : VW) : Nat → Int32 := W.2.2.2.2.1
def gU (W : VW) : Nat → Nat := W.2.2.2.2.2.1
def gE (W : VW) : Nat → Int32 := W.2.2.2.2.2.2.1
def gW (W : VW) : Nat → Nat → Int32 := W.2.2.2.2.2.2.2
def gmar (W : VW) (x y : Nat) : Int32 := mgn (gW W) (gV W) x y (gN W)
abbrev gbts (W : VW) (x y : Nat) : Prop := sbt (gmar W x y) (gC W) x y
def gstd (W : VW) (x y : Nat) : Nat := if gbts W y x then y else x
def glin (W : VW) (party : Int32) (x y : Nat) : Int32 := sg0 (psm (gK W) (gP W) (gW W) (gV W) party x y (gN W))
def gvot (W : VW) (m n c : Nat) (s : Nat → Nat) (ins : Int32) (n' c' : Nat) (s' : Nat → Nat) (ins' : Int32) : Int32 :=
  if gK W m = 0 then gV W m * sgn (gW W m n) (gW W m n')
  else if gK W m = 1 then gV W m * sgn (gW W m c) (gW W m c')
  else if gK W m = 2 then gV W m * sgn (gW W m (s (gU W m))) (gW W m (s' (gU W m)))
  else if gK W m = 3 then gV W m * glin W (gP W m) n n'
  else if gK W m = 4 then (if (ins >>> (gE W m &&& 31)) &&& 1 = (ins' >>> (gE W m &&& 31)) &&& 1 then gV W m * glin W (gP W m) n n' else gV W m * (((ins >>> (gE W m &&& 31)) &&& 1) - ((ins' >>> (gE W m &&& 31)) &&& 1)))
  else gV W m / 2 * sgn (gW W m n) (gW W m n') + (gV W m - gV W m / 2) * sgn (gW W m c) (gW W m c')
def gvt (W : VW) (m : Nat) (A B : NV) : Int32 := gvot W m A.1 A.2.1 A.2.2.1 A.2.2.2.1 B.1 B.2.1 B.2.2.1 B.2.2.2.1
def gsum (W : VW) (A B : NV) : Int32 := sv (fun m => gvt W m A B) (gN W)
def gq (W : VW) (A B : NV) : NV := (A.1, (if q_fst (gsum W A B) (gC W) A.1 B.1 then A.2.1 else B.2.1), q_see (gstd W) A.1 A.2.2.1 B.2.2.1, A.2.2.2.1 ||| B.2.2.2.1, gsum W A B, (if q_fst (gsum W A B) (gC W) A.1 B.1 then 0 else 1))
def gc (W : VW) (x y : Nat) (A B : NV) : NV := if gbts W x y then (A.1, A.2.1, A.2.2.1, A.2.2.2.1 ||| B.2.2.2.1, 0, 0) else (B.1, B.2.1, B.2.2.1, A.2.2.2.1 ||| B.2.2.2.1, 0, 0)
def gvf (W : VW) (t : TR) : Nat → Nat → NV
  | 0, _ => nv_leaf 0
  | f + 1, n => if (t n).1 = 0 then nv_leaf (t n).2.2.2.1 else if (t n).1 = 1 then gq W (gvf W t f (t n).2.1) (gvf W t f (t n).2.2.1) else gc W (t n).2.2.2.1 (t n).2.2.2.2 (gvf W t f (t n).2.1) (gvf W t f (t n).2.2.1)
def gval (W : VW) (t : TR) (n : Nat) : NV := gvf W t (n + 1) n
/-- the reference's view -/
def rvw (i : Nat → Int32) (a : Nat → Nat → Int32) (N : Nat) : VW := (N, a 0 1, v_kin i a, v_voi i a, v_par i a, v_num a, v_end i a, v_wis i a)
theorem rvw_q (i : Nat → Int32) (a : Nat → Nat → Int32) (N : Nat) : nv_q i a N = gq (rvw i a N) := rfl
theorem rvw_c (i : Nat → Int32) (a : Nat → Nat → Int32) (N : Nat) : nv_c i a N = gc (rvw i a N) := rfl
theorem rvw_val (i : Nat → Int32) (a : Nat → Nat → Int32) (N : Nat) (t : TR) (n : Nat) : nval i a N t n = gval (rvw i a N) t n := by
  have h : ∀ f n, nvf i a N t f n = gvf (rvw i a N) t f n := by
    intro f
    induction f with
    | zero => intro n; rfl
    | succ f ih => intro n; unfold nvf gvf; rw [ih, ih, rvw_q, rvw_c]
  exact h _ _
theorem gvf_fuel {W : VW} {K : Nat} {t : TR} (ht : tr_ok t K) : ∀ (f g n : Nat), n < K → n < f → n < g → gvf W t f n = gvf W t g n := by
  intro f
  induction f with
  | zero => intro g n _ h; omega
  | succ f ih =>
    intro g n hn hf hg
    obtain ⟨g, rfl⟩ : ∃ k, g = k + 1 := ⟨g - 1, by omega⟩
    unfold gvf
    by_cases h0 : (t n).1 = 0
    · simp only [h0, if_true]
    · obtain ⟨h1, h2⟩ := (ht n hn).2.2.1 h0
      rw [ih g (t n).2.1 (by omega) (by omega) (by omega), ih g (t n).2.2.1 (by omega) (by omega) (by omega)]
theorem gval_0 {W : VW} {n : Nat} {t : TR} (h : (t n).1 = 0) : gval W t n = nv_leaf (t n).2.2.2.1 := by
  unfold gval gvf; rw [if_pos h]
theorem gval_1 {W : VW} {K n : Nat} {t : TR} (ht : tr_ok t K) (hn : n < K) (h : (t n).1 = 1) : gval W t n = gq W (gval W t (t n).2.1) (gval W t (t n).2.2.1) := by
  obtain ⟨h1, h2⟩ := (ht n hn).2.2.1 (by omega)
  unfold gval
  rw [gvf_fuel ht ((t n).2.1 + 1) n (t n).2.1 (by omega) (by omega) (by omega), gvf_fuel ht ((t n).2.2.1 + 1) n (t n).2.2.1 (by omega) (by omega) (by omega)]
  conv => lhs; unfold gvf
  rw [if_neg (by omega), if_pos h]
theorem gval_2 {W : VW} {K n : Nat} {t : TR} (ht : tr_ok t K) (hn : n < K) (h : (t n).1 = 2) : gval W t n = gc W (t n).2.2.2.1 (t n).2.2.2.2 (gval W t (t n).2.1) (gval W t (t n).2.2.1) := by
  obtain ⟨h1, h2⟩ := (ht n hn).2.2.1 (by omega)
  unfold gval
  rw [gvf_fuel ht ((t n).2.1 + 1) n (t n).2.1 (by omega) (by omega) (by omega), gvf_fuel ht ((t n).2.2.1 + 1) n (t n).2.2.1 (by omega) (by omega) (by omega)]
  conv => lhs; unfold gvf
  rw [if_neg (by omega), if_neg (by omega)]
/-! two views that are alike for the ENDS of a set -/
def veq (D : Nat → Prop) (W W' : VW) : Prop := gN W = gN W' ∧ gC W = gC W' ∧ ∀ m, m < gN W → gK W m = gK W' m ∧ gV W m = gV W' m ∧ ((gK W m = 3 ∨ gK W m = 4) → gP W m = gP W' m) ∧ (gK W m = 2 → gU W m = gU W' m) ∧ (gK W m = 4 → gE W m = gE W' m) ∧ ∀ x y, D x → D y → sgn (gW W m x) (gW W m y) = sgn (gW W' m x) (gW W' m y)
theorem sgn_lt {p q : Int32} : sgn p q = 1 ↔ p < q := by
  unfold sgn
  split
  · simp [*]
  · split
    · rename_i h1 h2; simp [h1]
    · rename_i h1 h2; simp [h1]
theorem sgn_gt {p q : Int32} : sgn p q = -1 ↔ q < p := by
  unfold sgn
  split
  · rename_i h; simp [Int32.not_lt.mpr (Int32.le_of_lt h)]
  · split
    · simp [*]
    · rename_i h1 h2; simp [h2]
theorem sgn_cg {p q p' q' : Int32} (h : sgn p q = sgn p' q') : ((p < q) ↔ (p' < q')) ∧ ((q < p) ↔ (q' < p')) := ⟨by rw [← sgn_lt, ← sgn_lt, h], by rw [← sgn_gt, ← sgn_gt, h]⟩
theorem mgn_cg {w w' : Nat → Nat → Int32} {v v' : Nat → Int32} {x y : Nat} : ∀ n, (∀ m, m < n → v m = v' m ∧ sgn (w m x) (w m y) = sgn (w' m x) (w' m y)) → mgn w v x y n = mgn w' v' x y n := by
  intro n
  induction n with
  | zero => intro _; rfl
  | succ n ih =>
    intro h
    obtain ⟨h1, h2⟩ := h n (by omega)
    obtain ⟨h3, h4⟩ := sgn_cg h2
    unfold mgn
    rw [ih (fun m hm => h m (by omega)), h1]
    simp only [h3, h4]
theorem psm_cg {k k' p p' : Nat → Int32} {w w' : Nat → Nat → Int32} {v v' : Nat → Int32} {party : Int32} {x y : Nat} : ∀ n, (∀ m, m < n → k m = k' m ∧ v m = v' m ∧ ((k m = 3 ∨ k m = 4) → p m = p' m) ∧ sgn (w m x) (w m y) = sgn (w' m x) (w' m y)) → psm k p w v party x y n = psm k' p' w' v' party x y n := by
  intro n
  induction n with
  | zero => intro _; rfl
  | succ n ih =>
    intro h
    obtain ⟨h1, h2, h3, h4⟩ := h n (by omega)
    unfold psm
    rw [ih (fun m hm => h m (by omega)), h4, h2]
    congr 1
    by_cases hk : k n = 3 ∨ k n = 4
    · rw [h3 hk, h1]
    · have hk' : ¬ (k' n = 3 ∨ k' n = 4) := by rw [← h1]; exact hk
      rw [if_neg (fun z => hk z.1), if_neg (fun z => hk' z.1)]
theorem sv_cg {f g : Nat → Int32} : ∀ n, (∀ m, m < n → f m = g m) → sv f n = sv g n := by
  intro n
  induction n with
  | zero => intro _; rfl
  | succ n ih => intro h; unfold sv; rw [ih (fun m hm => h m (by omega)), h n (by omega)]
theorem veq.mar {D : Nat → Prop} {W W' : VW} (h : veq D W W') {x y : Nat} (hx : D x) (hy : D y) : gmar W x y = gmar W' x y := by
  unfold gmar
  rw [← h.1]
  exact mgn_cg _ (fun m hm => ⟨(h.2.2 m hm).2.1, (h.2.2 m hm).2.2.2.2.2 x y hx hy⟩)
theorem veq.bts {D : Nat → Prop} {W W' : VW} (h : veq D W W') {x y : Nat} (hx : D x) (hy : D y) : gbts W x y ↔ gbts W' x y := by
  unfold gbts; rw [h.mar hx hy, h.2.1]
theorem veq.std {D : Nat → Prop} {W W' : VW} (h : veq D W W') {x y : Nat} (hx : D x) (hy : D y) : gstd W x y = gstd W' x y := by
  unfold gstd; simp only [h.bts hy hx]
theorem gstd_or {W : VW} {x y : Nat} : gstd W x y = x ∨ gstd W x y = y := by
  unfold gstd; split
  · exact Or.inr rfl
  · exact Or.inl rfl
theorem veq.lin {D : Nat → Prop} {W W' : VW} (h : veq D W W') {x y : Nat} (hx : D x) (hy : D y) (p : Int32) : glin W p x y = glin W' p x y := by
  unfold glin
  rw [← h.1, psm_cg _ (fun m hm => ⟨(h.2.2 m hm).1, (h.2.2 m hm).2.1, (h.2.2 m hm).2.2.1, (h.2.2 m hm).2.2.2.2.2 x y hx hy⟩)]
/-- a node's ENDS are in the set (what is seen with less than f steps) -/
def nvD (D : Nat → Prop) (A : NV) : Prop := D A.1 ∧ D A.2.1 ∧ ∀ q, q < 6 → D (A.2.2.1 q)
/-- two nodes of one value, what is seen so far as there are steps -/
def nve (A B : NV) : Prop := A.1 = B.1 ∧ A.2.1 = B.2.1 ∧ (∀ q, q < 6 → A.2.2.1 q = B.2.2.1 q) ∧ A.2.2.2 = B.2.2.2
theorem veq.vot {D : Nat → Prop} {W W' : VW} (h : veq D W W') {m : Nat} (hm : m < gN W) (hu : gK W m = 2 → gU W m < 6) {A B A' B' : NV} (hA : nvD D A) (hB : nvD D B) (eA : nve A A') (eB : nve B B') : gvt W m A B = gvt W' m A' B' := by
  obtain ⟨a1, a2, a3, a4⟩ := eA
  obtain ⟨b1, b2, b3, b4⟩ := eB
  obtain ⟨g1, g2, g3, g4, g5, g6⟩ := h.2.2 m hm
  unfold gvt gvot
  rw [← a1, ← a2, ← a4, ← b1, ← b2, ← b4, ← g1, ← g2]
  by_cases k0 : gK W m = 0
  · rw [if_pos k0, if_pos k0, g6 _ _ hA.1 hB.1]
  rw [if_neg k0, if_neg k0]
  by_cases k1 : gK W m = 1
  · rw [if_pos k1, if_pos k1, g6 _ _ hA.2.1 hB.2.1]
  rw [if_neg k1, if_neg k1]
  by_cases k2 : gK W m = 2
  · rw [if_pos k2, if_pos k2, ← g4 k2, ← a3 _ (hu k2), ← b3 _ (hu k2), g6 _ _ (hA.2.2 _ (hu k2)) (hB.2.2 _ (hu k2))]
  rw [if_neg k2, if_neg k2]
  by_cases k3 : gK W m = 3
  · rw [if_pos k3, if_pos k3, ← g3 (Or.inl k3), h.lin hA.1 hB.1]
  rw [if_neg k3, if_neg k3]
  by_cases k4 : gK W m = 4
  · rw [if_pos k4, if_pos k4, ← g3 (Or.inr k4), ← g5 k4, h.lin hA.1 hB.1]
  rw [if_neg k4, if_neg k4, g6 _ _ hA.1 hB.1, g6 _ _ hA.2.1 hB.2.1]
theorem veq.sum {D : Nat → Prop} {W W' : VW} (h : veq D W W') (hu : ∀ m, m < gN W → gK W m = 2 → gU W m < 6) {A B A' B' : NV} (hA : nvD D A) (hB : nvD D B) (eA : nve A A') (eB : nve B B') : gsum W A B = gsum W' A' B' := by
  unfold gsum
  rw [← h.1]
  exact sv_cg _ (fun m hm => h.vot hm (hu m hm) hA hB eA eB)
theorem veq.q {D : Nat → Prop} {W W' : VW} (h : veq D W W') (hu : ∀ m, m < gN W → gK W m = 2 → gU W m < 6) {A B A' B' : NV} (hA : nvD D A) (hB : nvD D B) (eA : nve A A') (eB : nve B B') : nve (gq W A B) (gq W' A' B') := by
  have hs := h.sum hu hA hB eA eB
  obtain ⟨a1, a2, a3, a4⟩ := eA
  obtain ⟨b1, b2, b3, b4⟩ := eB
  unfold gq nve
  rw [hs, h.2.1, a1, b1, a2, b2]
  refine ⟨rfl, rfl, fun q hq => ?_, ?_⟩
  · cases q with
    | zero => rfl
    | succ q =>
      show gstd W _ _ = gstd W' _ _
      rw [h.std (hA.2.2 q (by omega)) (hB.2.2 q (by omega)), a3 q (by omega), b3 q (by omega)]
  · show (A.2.2.2.1 ||| B.2.2.2.1, _, _) = (A'.2.2.2.1 ||| B'.2.2.2.1, _, _)
    rw [a4, b4]
theorem gq_D {D : Nat → Prop} {W : VW} {A B : NV} (hA : nvD D A) (hB : nvD D B) : nvD D (gq W A B) := by
  refine ⟨hA.1, ?_, fun q hq => ?_⟩
  · show D (if _ then _ else _)
    split
    · exact hA.2.1
    · exact hB.2.1
  · cases q with
    | zero => exact hA.1
    | succ q =>
      show D (gstd W _ _)
      rcases gstd_or (W := W) (x := A.2.2.1 q) (y := B.2.2.1 q) with e | e
      · rw [e]; exact hA.2.2 q (by omega)
      · rw [e]; exact hB.2.2 q (by omega)
theorem veq.c {D : Nat → Prop} {W W' : VW} (h : veq D W W') {x y : Nat} (hx : D x) (hy : D y) {A B A' B' : NV} (eA : nve A A') (eB : nve B B') : nve (gc W x y A B) (gc W' x y A' B') := by
  obtain ⟨a1, a2, a3, a4⟩ := eA
  obtain ⟨b1, b2, b3, b4⟩ := eB
  unfold gc
  by_cases hb : gbts W x y
  · rw [if_pos hb, if_pos ((h.bts hx hy).mp hb), a4, b4]
    exact ⟨a1, a2, a3, rfl⟩
  · rw [if_neg hb, if_neg (fun z => hb ((h.bts hx hy).mpr z)), a4, b4]
    exact ⟨b1, b2, b3, rfl⟩
theorem gc_D {D : Nat → Prop} {W : VW} {x y : Nat} {A B : NV} (hA : nvD D A) (hB : nvD D B) : nvD D (gc W x y A B) := by
  unfold gc
  split
  · exact hA
  · exact hB
theorem leaf_D {D : Nat → Prop} {x : Nat} (h : D x) : nvD D (nv_leaf x) := ⟨h, h, fun _ _ => h⟩
theorem nve.rf (A : NV) : nve A A := ⟨rfl, rfl, fun _ _ => rfl, rfl⟩
