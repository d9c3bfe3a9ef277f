/-! what both sides are pictures of: a chamber as numbers (as the reference's row), the told TREES, the SHELVES; views of it -/
/-- bit m of a set -/
abbrev btn (x m : Nat) : Prop := x / 2 ^ m % 2 = 1
theorem and31 : ∀ m, m < 32 → nI m &&& 31 = nI m := by decide
theorem smod32 : ∀ m, m < 32 → ((nI m).toBitVec.smod 32).toNat = m := by decide
theorem bit_shr {x m : Nat} (hx : x < 2 ^ 31) (hm : m < 31) : (nI x >>> (nI m &&& 31)) &&& 1 = nI (x / 2 ^ m % 2) := by
  rw [and31 m (by omega), pk_shrN hx (nI m) m (smod32 m (by omega)), pk_andN (k := 1) (Nat.lt_of_le_of_lt (Nat.div_le_self _ _) (by omega)) (by decide)]
theorem bit_is {x m : Nat} (hx : x < 2 ^ 31) (hm : m < 31) : ((nI x >>> (nI m &&& 31)) &&& 1 = 1) ↔ btn x m := by
  rw [bit_shr hx hm, show (1 : Int32) = nI 1 from rfl, nI_eq (by omega) (by omega)]
theorem bit_is0 {x m : Nat} (hx : x < 2 ^ 31) (hm : m < 31) : ((nI x >>> (nI m &&& 31)) &&& 1 = 0) ↔ ¬ btn x m := by
  rw [bit_shr hx hm, show (0 : Int32) = nI 0 from rfl, nI_eq (by omega) (by omega)]
  unfold btn; omega
/-- the most NUMBER of a KIND -/
def mostN (k : Nat) : Nat := if k = 2 then 5 else if k = 3 ∨ k = 4 then 2 else 0
/-- a chamber's numbers are in range -/
def CB (C : Nat → Nat) : Prop := 1 ≤ C 0 ∧ C 0 ≤ 7 ∧ C 1 ≤ 1 ∧ C 2 ≤ 9 ∧ C 3 ≤ 12 ∧ ∀ m, m < C 2 → C (10 + m) ≤ 5 ∧ 1 ≤ C (20 + m) ∧ C (20 + m) ≤ 9 ∧ C (30 + m) ≤ mostN (C (10 + m)) ∧ C (40 + m) ≤ 6 ∧ C (50 + m) ≤ 100 ∧ ∀ e, e < 7 → C (60 + 7 * m + e) ≤ 9 ∧ C (130 + 7 * m + e) ≤ 9
/-- the reference's row a holds chamber C -/
def rC (s : QST) (a : Nat) (C : Nat → Nat) : Prop := ∀ k, k < 200 → qE s a k = nI (C k)
/-- a member's object at A holds member m of chamber C -/
def cM (s : QST) (A m : Nat) (C : Nat → Nat) : Prop := qF s A 0 = nI m ∧ qF s A 1 = nI (C (10 + m)) ∧ qF s A 2 = nI (C (20 + m)) ∧ qF s A 3 = nI (C (30 + m)) ∧ qF s A 4 = nI (C (40 + m)) ∧ qF s A 5 = nI (C (50 + m)) ∧ ∀ e, e < 7 → qE s (A + 1) e = nI (C (60 + 7 * m + e)) ∧ qE s (A + 2) e = nI (C (130 + 7 * m + e))
/-- the class's chamber at c holds chamber C -/
def cC (s : QST) (c : Nat) (C : Nat → Nat) : Prop := qF s c 0 = nI (C 0) ∧ qF s c 1 = nI (C 1) ∧ qF s c 2 = nI (C 2) ∧ qF s c 3 = nI (C 3) ∧ ∀ m, m < C 2 → cM s (c + 3 + 3 * m) m C
theorem cM.cg {s s' : QST} {A m : Nat} {C : Nat → Nat} (h : cM s A m C) (h0 : qF s' A = qF s A) (h1 : qE s' (A + 1) = qE s (A + 1)) (h2 : qE s' (A + 2) = qE s (A + 2)) : cM s' A m C := by
  unfold cM; rw [h0, h1, h2]; exact h
theorem cC.cg {s s' : QST} {c lo hi : Nat} {C : Nat → Nat} (h : cC s c C) (F : qfr lo hi s s') (hM : C 2 ≤ 9) (hd : hi < c ∨ c + 30 ≤ lo) : cC s' c C := by
  obtain ⟨h0, h1, h2, h3, h4⟩ := h
  refine ⟨by rw [F.f (by omega)]; exact h0, by rw [F.f (by omega)]; exact h1, by rw [F.f (by omega)]; exact h2, by rw [F.f (by omega)]; exact h3, fun m hm => (h4 m hm).cg (F.F (by omega)) (F.E (by omega)) (F.E (by omega))⟩
theorem rC.cg {s s' : QST} {a : Nat} {C : Nat → Nat} (h : rC s a C) (e : qE s' a = qE s a) : rC s' a C := fun k hk => by rw [e]; exact h k hk
/-- the chamber's own view, and views of what is supposed -/
def cvw (C : Nat → Nat) : VW := (C 2, nI (C 1), fun m => nI (C (10 + m)), fun m => nI (C (20 + m)), fun m => nI (C (30 + m)), fun m => C (30 + m), fun m => nI (C (40 + m)), fun m e => nI (C (60 + 7 * m + e)))
def wAll (W : VW) (k : Nat) : VW := (gN W, gC W, fun _ => nI k, gV W, gP W, gU W, gE W, gW W)
def wDeep (W : VW) (x : Nat) : VW := (gN W, gC W, fun m => if btn x m then 1 else gK W m, gV W, gP W, gU W, gE W, gW W)
def wBuy (W : VW) (x e : Nat) : VW := (gN W, gC W, fun m => if btn x m then 4 else gK W m, gV W, fun m => if btn x m then 0 else gP W m, gU W, fun m => if btn x m then nI e else gE W m, gW W)
def wLie (W : VW) (l : Nat) (f : Nat → Int32) : VW := (gN W, gC W, gK W, gV W, gP W, gU W, gE W, fun m e => if m = l then f e else gW W m e)
def wDbt (W : VW) (C : Nat → Nat) (x : Nat) : VW := (gN W, gC W, gK W, gV W, gP W, gU W, gE W, fun m e => if btn x m then nI (C (130 + 7 * m + e)) else gW W m e)
theorem veq.rf {D : Nat → Prop} (W : VW) : veq D W W := ⟨rfl, rfl, fun _ _ => ⟨rfl, rfl, fun _ => rfl, fun _ => rfl, fun _ => rfl, fun _ _ _ _ => rfl⟩⟩
theorem veq.mono {D D' : Nat → Prop} {W W' : VW} (h : veq D W W') (hd : ∀ x, D' x → D x) : veq D' W W' := ⟨h.1, h.2.1, fun m hm => by
  obtain ⟨a1, a2, a3, a4, a5, a6⟩ := h.2.2 m hm
  exact ⟨a1, a2, a3, a4, a5, fun x y hx hy => a6 x y (hd x hx) (hd y hy)⟩⟩
/-- the reference's view when it supposes nothing but what its numbers say; its ints i, its row C -/
theorem v_mem_C {s : QST} {C : Nat → Nat} (h : rC s 164 C) {i : Nat → Int32} (h35 : i 35 = 0) : v_mem i (fun k => qE s (164 + k)) = nI (C 2) := by
  unfold v_mem; rw [h35, if_pos (by decide)]; exact h 2 (by decide)
theorem v_ok_C {s : QST} {C : Nat → Nat} (h : rC s 164 C) (hM : C 2 ≤ 9) {i : Nat → Int32} (h35 : i 35 = 0) : v_ok i (fun k => qE s (164 + k)) (C 2) := ⟨v_mem_C h h35, hM, fun z => absurd (by rw [h35]; decide) z⟩
theorem v_voi_C {s : QST} {C : Nat → Nat} (h : rC s 164 C) {i : Nat → Int32} (h35 : i 35 = 0) {m : Nat} (hm : m < 9) : v_voi i (fun k => qE s (164 + k)) m = nI (C (20 + m)) := by
  unfold v_voi; rw [h35, if_pos (by decide)]; exact h _ (by omega)
theorem v_num_C {s : QST} {C : Nat → Nat} (h : rC s 164 C) {m : Nat} (hm : m < 9) (hn : C (30 + m) < 10) : v_num (fun k => qE s (164 + k)) m = C (30 + m) := by
  unfold v_num
  have : (fun k => qE s (164 + k)) 0 (30 + m) = nI (C (30 + m)) := h _ (by omega)
  rw [this, nI_clamp (by omega)]
theorem CB.num {C : Nat → Nat} (h : CB C) {m : Nat} (hm : m < C 2) : C (30 + m) < 10 := by
  have := (h.2.2.2.2.2 m hm).2.2.2.1
  unfold mostN at this
  split at this
  · omega
  · split at this <;> omega
/-- a view of the reference by its numbers: kinds as told by a function, and so on -/
theorem rvw_of {s : QST} {C : Nat → Nat} (h : rC s 164 C) (hC : CB C) {i : Nat → Int32} (h35 : i 35 = 0) {W : VW} (hN : gN W = C 2) (hc : gC W = nI (C 1)) (hk : ∀ m, m < C 2 → v_kin i (fun k => qE s (164 + k)) m = gK W m) (hv : ∀ m, m < C 2 → gV W m = nI (C (20 + m))) (hp : ∀ m, m < C 2 → v_par i (fun k => qE s (164 + k)) m = gP W m) (hu : ∀ m, m < C 2 → gU W m = C (30 + m)) (he : ∀ m, m < C 2 → v_end i (fun k => qE s (164 + k)) m = gE W m) (hw : ∀ m e, m < C 2 → e < 7 → v_wis i (fun k => qE s (164 + k)) m e = gW W m e) : veq (fun x => x < 7) (rvw i (fun k => qE s (164 + k)) (C 2)) W := by
  have hM := hC.2.2.2.1
  refine ⟨hN.symm, ?_, fun m hm => ⟨hk m hm, ?_, fun _ => hp m hm, fun _ => ?_, fun _ => he m hm, fun x y hx hy => ?_⟩⟩
  · rw [hc]; exact h 1 (by decide)
  · rw [hv m hm]; exact v_voi_C h h35 (by have : m < C 2 := hm; omega)
  · rw [hu m hm]; exact v_num_C h (by have : m < C 2 := hm; omega) (hC.num hm)
  · show sgn (v_wis i (fun k => qE s (164 + k)) m x) (v_wis i (fun k => qE s (164 + k)) m y) = sgn (gW W m x) (gW W m y)
    rw [hw m x hm hx, hw m y hm hy]
theorem v_kin_0 {s : QST} {C : Nat → Nat} (h : rC s 164 C) {i : Nat → Int32} (h28 : i 28 = -1) {x y : Nat} (h33 : i 33 = nI x) (h29 : i 29 = nI y) (hx : x < 512) (hy : y < 512) {m : Nat} (hm : m < 9) : v_kin i (fun k => qE s (164 + k)) m = if btn x m then 4 else if btn y m then 1 else nI (C (10 + m)) := by
  unfold v_kin
  rw [h28, if_pos (by decide), h33, h29]
  have e : (fun k => qE s (164 + k)) 0 (10 + m) = nI (C (10 + m)) := h _ (by omega)
  rw [e]
  simp only [bit_is (show x < 2 ^ 31 by omega) (show m < 31 by omega), bit_is (show y < 2 ^ 31 by omega) (show m < 31 by omega)]
theorem v_par_0 {s : QST} {C : Nat → Nat} (h : rC s 164 C) {i : Nat → Int32} {x : Nat} (h33 : i 33 = nI x) (hx : x < 512) {m : Nat} (hm : m < 9) : v_par i (fun k => qE s (164 + k)) m = if btn x m then 0 else nI (C (30 + m)) := by
  unfold v_par
  have e : (fun k => qE s (164 + k)) 0 (30 + m) = nI (C (30 + m)) := h _ (by omega)
  rw [e, h33]
  simp only [bit_is (show x < 2 ^ 31 by omega) (show m < 31 by omega)]
theorem v_end_0 {s : QST} {C : Nat → Nat} (h : rC s 164 C) {i : Nat → Int32} {x : Nat} (h33 : i 33 = nI x) (hx : x < 512) {m : Nat} (hm : m < 9) : v_end i (fun k => qE s (164 + k)) m = if btn x m then i 34 else nI (C (40 + m)) := by
  unfold v_end
  have e : (fun k => qE s (164 + k)) 0 (40 + m) = nI (C (40 + m)) := h _ (by omega)
  rw [e, h33]
  simp only [bit_is (show x < 2 ^ 31 by omega) (show m < 31 by omega)]
theorem v_wis_0 {s : QST} {C : Nat → Nat} (h : rC s 164 C) {i : Nat → Int32} (h35 : i 35 = 0) {x : Nat} (h30 : i 30 = nI x) (hx : x < 512) {m e : Nat} (hm : m < 9) (he : e < 7) : v_wis i (fun k => qE s (164 + k)) m e = if nI m = i 31 then qE s 182 e else if btn x m then nI (C (130 + 7 * m + e)) else nI (C (60 + 7 * m + e)) := by
  unfold v_wis
  rw [h35, if_pos (by decide), h30]
  have e1 : (fun k => qE s (164 + k)) 0 (130 + 7 * m + e) = nI (C (130 + 7 * m + e)) := h _ (by omega)
  have e2 : (fun k => qE s (164 + k)) 0 (60 + 7 * m + e) = nI (C (60 + 7 * m + e)) := h _ (by omega)
  rw [e1, e2]
  simp only [bit_is (show x < 2 ^ 31 by omega) (show m < 31 by omega)]
/-- the reference supposes nothing -/
def rneu (s : QST) : Prop := qF s 163 28 = -1 ∧ qF s 163 29 = 0 ∧ qF s 163 30 = 0 ∧ qF s 163 31 = -1 ∧ qF s 163 33 = 0 ∧ qF s 163 35 = 0
theorem nI_ne_m1 {m : Nat} (h : m < 100) : ¬ nI m = -1 := by
  intro z
  have e1 := congrArg Int32.toInt z
  rw [nI_toInt (by omega)] at e1
  have : (-1 : Int32).toInt = -1 := by decide
  rw [this] at e1
  omega
theorem btn0 (m : Nat) : ¬ btn 0 m := by simp [btn]
theorem rvw_neu {s : QST} {C : Nat → Nat} (h : rC s 164 C) (hC : CB C) (hn : rneu s) : veq (fun x => x < 7) (rvw (qF s 163) (fun k => qE s (164 + k)) (C 2)) (cvw C) := by
  obtain ⟨n1, n2, n3, n4, n5, n6⟩ := hn
  have hM := hC.2.2.2.1
  refine rvw_of h hC n6 rfl rfl (fun m hm => ?_) (fun m hm => rfl) (fun m hm => ?_) (fun m hm => rfl) (fun m hm => ?_) (fun m e hm he => ?_)
  · rw [v_kin_0 h n1 (x := 0) (y := 0) n5 n2 (by decide) (by decide) (by omega), if_neg (btn0 m), if_neg (btn0 m)]; rfl
  · rw [v_par_0 h (x := 0) n5 (by decide) (by omega), if_neg (btn0 m)]; rfl
  · rw [v_end_0 h (x := 0) n5 (by decide) (by omega), if_neg (btn0 m)]; rfl
  · rw [v_wis_0 h n6 (x := 0) n3 (by decide) (by omega) he, n4, if_neg (nI_ne_m1 (by omega)), if_neg (btn0 m)]; rfl
