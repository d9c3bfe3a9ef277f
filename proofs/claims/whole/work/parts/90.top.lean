/-! who is reached; top is alike -/
theorem btn_or2 {a b m : Nat} : btn (a ||| b) m ↔ (btn a m ∨ btn b m) := by
  rw [btn_tb, btn_tb, btn_tb, Nat.testBit_or, Bool.or_eq_true]
theorem pc_lt7 : ∀ n, n < 8 → ∀ x, x < 128 → x < 2 ^ n → pc x ≤ n := by decide +kernel
theorem pc_pow : ∀ x, x < 7 → pc (2 ^ x) = 1 := by decide +kernel
theorem pc_mono {a b : Nat} (h : ∀ y, btn a y → btn b y) : pc a ≤ pc b := by
  refine sumN_le 10 (fun i _ => ?_)
  have := h i
  unfold btn at this
  show a / 2 ^ i % 2 ≤ b / 2 ^ i % 2
  omega
theorem sumN_lt {f g : Nat → Nat} : ∀ n, (∀ i, i < n → f i ≤ g i) → (∃ i, i < n ∧ f i < g i) → sumN f n < sumN g n := by
  intro n
  induction n with
  | zero => rintro _ ⟨i, h, _⟩; exact absurd h (Nat.not_lt_zero _)
  | succ n ih =>
    rintro h ⟨i, h1, h2⟩
    show sumN f n + f n < sumN g n + g n
    by_cases e : i = n
    · subst e
      have := sumN_le i (f := f) (g := g) (fun j hj => h j (by omega))
      omega
    · have := ih (fun j hj => h j (by omega)) ⟨i, by omega, h2⟩
      have := h n (by omega)
      omega
theorem pc_strict {a b y : Nat} (h : ∀ y, btn a y → btn b y) (hy : y < 10) (h1 : btn b y) (h2 : ¬ btn a y) : pc a < pc b := by
  refine sumN_lt 10 (fun i _ => ?_) ⟨y, hy, ?_⟩
  · have := h i
    unfold btn at this
    show a / 2 ^ i % 2 ≤ b / 2 ^ i % 2
    omega
  · unfold btn at h1 h2
    show a / 2 ^ y % 2 < b / 2 ^ y % 2
    omega
/-- a set that beating does not leave -/
def clo (W : VW) (n T : Nat) : Prop := ∀ a b, a < n → b < n → btn T a → gbts W a b → btn T b
/-- x reaches y by beating -/
def RS (W : VW) (n x y : Nat) : Prop := ∀ T, T < 128 → btn T x → clo W n T → btn T y
/-- what is reached so far -/
def rso (W : VW) (n x T : Nat) : Prop := T < 128 ∧ btn T x ∧ ∀ y, btn T y → RS W n x y ∧ y < n
theorem rso_lt {W : VW} {n x T : Nat} (hn : n ≤ 7) (h : rso W n x T) : T < 2 ^ n := by
  have e : T ||| (2 ^ n - 1) = 2 ^ n - 1 := by
    apply Nat.eq_of_testBit_eq
    intro y
    rw [Nat.testBit_or, Nat.testBit_two_pow_sub_one]
    cases e : T.testBit y
    · rfl
    · have := (h.2.2 y (btn_tb.mpr e)).2
      rw [decide_eq_true this]; rfl
  have h1 : T ≤ T ||| (2 ^ n - 1) := Nat.left_le_or
  have : 0 < 2 ^ n := Nat.pow_pos (by omega)
  omega
theorem rso_pc {W : VW} {n x T : Nat} (hn : n ≤ 7) (h : rso W n x T) : pc T ≤ n := pc_lt7 n (by omega) T h.1 (rso_lt hn h)
theorem rso_0 {W : VW} {n x : Nat} (hn : n ≤ 7) (hx : x < n) : rso W n x (2 ^ x) := by
  have hb : ∀ y, btn (2 ^ x) y ↔ x = y := fun y => by rw [btn_tb, Nat.testBit_two_pow, decide_eq_true_iff]
  refine ⟨(shl7 x (by omega)).2, (hb x).mpr rfl, fun y hy => ?_⟩
  have := (hb y).mp hy
  subst this
  exact ⟨fun T _ h _ => h, hx⟩
theorem rso_or {W : VW} {n x T a : Nat} (hn : n ≤ 7) (h : rso W n x T) (ha : a < n) (hb : btn T a) : rso W n x (T ||| ov W n a) := by
  have hl := ov_lt (W := W) (n := n) (x := a) (by omega)
  refine ⟨Nat.or_lt_two_pow (n := 7) h.1 hl, btn_or2.mpr (Or.inl h.2.1), fun y hy => ?_⟩
  rcases btn_or2.mp hy with q | q
  · exact h.2.2 y q
  · have hy8 : y < 8 := by
      refine Classical.byContradiction fun z => ?_
      have h2 : (128 : Nat) ≤ 2 ^ y := Nat.le_trans (by decide : (128 : Nat) ≤ 2 ^ 7) (Nat.pow_le_pow_right (by omega) (by omega))
      have := Nat.testBit_lt_two_pow (Nat.lt_of_lt_of_le hl h2)
      rw [btn_tb, this] at q
      cases q
    obtain ⟨q1, q2⟩ := (ov_bit (by omega) hy8).mp q
    exact ⟨fun T' h1 h2 h3 => h3 a y ha q1 ((h.2.2 a hb).1 T' h1 h2 h3) q2, q1⟩
theorem rso_bit {W : VW} {n x T a b : Nat} (hn : n ≤ 7) (h : rso W n x T) (ha : a < n) (hb : b < n) (hT : btn T a) (hg : gbts W a b) : rso W n x (T ||| 2 ^ b) := by
  refine ⟨(or7 (by omega) h.1).2, btn_or.mpr (Or.inl h.2.1), fun y hy => ?_⟩
  rcases btn_or.mp hy with q | q
  · exact h.2.2 y q
  · subst q
    exact ⟨fun T' h1 h2 h3 => h3 a b ha hb ((h.2.2 a hT).1 T' h1 h2 h3) hg, hb⟩
theorem rso_done {W : VW} {n x T : Nat} (h : rso W n x T) (hc : clo W n T) : ∀ y, y < 7 → (btn T y ↔ RS W n x y) := fun y _ => ⟨fun q => (h.2.2 y q).1, fun q => q T h.1 h.2.1 hc⟩
theorem RS_all {W : VW} {n x T : Nat} (hn : n ≤ 7) (hx : x < n) (hT : T < 128) (h : ∀ y, y < 7 → (btn T y ↔ RS W n x y)) : T = 2 ^ n - 1 ↔ ∀ y, y < n → RS W n x y := by
  obtain ⟨a1, a2⟩ := all_bit n (by omega)
  constructor
  · intro e y hy
    rw [← h y (by omega), e]
    exact (a1 y (by omega)).mpr hy
  · intro hr
    refine btn_ext hT a2 (fun y hy => ?_)
    rw [h y hy, a1 y (by omega)]
    constructor
    · intro q
      exact (a1 y (by omega)).mp (q (2 ^ n - 1) a2 ((a1 x (by omega)).mpr hx) (fun a b _ hb _ _ => (a1 b (by omega)).mpr hb))
    · exact hr y
section
variable {X : pm_X} {PR : pm_P} {s : QST} {Q : QPost}
theorem w_reachedFrom (hP : pm_np PR) {d : Nat} (hd : 1 ≤ d) {W : VW} {n x : Nat} (hw : wgh s W n) (hn : n ≤ 7) (hx : x < n) (hk : ∀ T, T < 128 → (∀ y, y < 7 → (btn T y ↔ RS W n x y)) → Q (some (.int (nI T))) s) : qP X PR d 60 [.ref 111, .int (nI x)] s Q := by
  obtain ⟨g1, g2, g3⟩ := hw
  refine qP.of (L := [_, _, _, _, _]) (by omega) (hP _ rfl) ms_Orders_reachedFrom rfl ?_
  show qW X PR (d - 1) (some .int) cd_Orders_reachedFrom 0 _ _ _ _
  have loop : ∀ (c k T : Nat) (L4 : Option Value), k + c = n → rso W n x T → (clo W n T ∨ k + 1 ≤ pc T) → qW X PR (d - 1) (some .int) cd_Orders_reachedFrom 1 [some (.ref (111)), some (.int (nI x)), some (.int (nI T)), some (.int (nI k)), L4] [] s Q := by
    intro c
    induction c with
    | zero =>
      intro k T L4 hk1 hT hc
      have e : k = n := by omega
      subst e
      refine qW.blk rfl ?_
      refine qv_iload rfl ?_
      refine qv_aload rfl ?_
      refine qv_gi ly_111 ⟨rfl, rfl, rfl⟩ (g1) ?_
      refine qv_icmp_geNt rfl rfl (by omega) (by omega) (by omega) (tgt := 8) rfl ?_
      refine qW.blk rfl ?_
      refine qv_iload rfl ?_
      refine qv_iret (rfl) ?_
      have hpc := rso_pc hn hT
      rcases hc with hc | hc
      · exact hk T hT.1 (rso_done hT hc)
      · omega
    | succ c ih =>
      intro k S L4 hk1 hS hc
      have pass : ∀ (c2 y T : Nat), y + c2 = n → rso W n x T → (∀ z, btn S z → btn T z) → (clo W n S → T = S) → ((T = S ∧ ∀ a b, a < y → b < n → btn S a → gbts W a b → btn S b) ∨ pc S < pc T) → qW X PR (d - 1) (some .int) cd_Orders_reachedFrom 3 [some (.ref (111)), some (.int (nI x)), some (.int (nI T)), some (.int (nI k)), some (.int (nI y))] [] s Q := by
        intro c2
        induction c2 with
        | zero =>
          intro y T hy hT hsub hcl hor
          have e : y = n := by omega
          subst e
          refine qW.blk rfl ?_
          refine qv_iload rfl ?_
          refine qv_aload rfl ?_
          refine qv_gi ly_111 ⟨rfl, rfl, rfl⟩ (g1) ?_
          refine qv_icmp_geNt rfl rfl (by omega) (by omega) (by omega) (tgt := 7) rfl ?_
          refine qW.blk rfl ?_
          refine qv_iinc (L' := [_, _, _, _, _]) rfl (nI_succ _).symm rfl ?_
          refine qv_goto (tgt := 1) rfl ?_
          refine ih (k + 1) T _ (by omega) hT ?_
          rcases hor with ⟨h1, h2⟩ | h
          · exact Or.inl (by rw [h1]; exact h2)
          · rcases hc with hc | hc
            · exact Or.inl (by rw [hcl hc]; exact hc)
            · exact Or.inr (by omega)
        | succ c2 ih2 =>
          intro y T hy hT hsub hcl hor
          have hT1 := hT.1
          by_cases hb : btn T y
          · have hl := ov_lt (W := W) (n := n) (x := y) (by omega)
            have ho := or_N (a := T) (b := ov W n y) (by omega) (by omega)
            refine qW.blk rfl ?_
            refine qv_iload rfl ?_
            refine qv_aload rfl ?_
            refine qv_gi ly_111 ⟨rfl, rfl, rfl⟩ (g1) ?_
            refine qv_icmp_geNf rfl rfl (by omega) (by omega) (by omega) (nx := 4) rfl ?_
            refine qW.blk rfl ?_
            refine qv_iload rfl ?_
            refine qv_iload rfl ?_
            refine qv_ishr ?_
            refine qv_iconst (v := 1) rfl ?_
            refine qv_iand ?_
            refine qv_iconst (v := 1) rfl ?_
            refine qv_icmp_ne_f (fun q => q ((bit_is (by omega) (by omega)).mpr hb)) (nx := 5) rfl ?_
            refine qW.blk rfl ?_
            refine qv_iload rfl ?_
            refine qv_aload rfl ?_
            refine qv_gr ly_111 ⟨rfl, rfl, rfl⟩ (by omega) ?_
            refine qv_iload rfl ?_
            refine qv_ia ly_112 rfl (by omega) (by decide) (g3 y (by omega)) ?_
            refine qv_ior ?_
            refine qv_top (ho) ?_
            refine qv_istore (L' := [_, _, _, _, _]) rfl ?_
            refine qv_nil (nx := 6) rfl ?_
            refine qW.blk rfl ?_
            refine qv_iinc (L' := [_, _, _, _, _]) rfl (nI_succ _).symm rfl ?_
            refine qv_goto (tgt := 3) rfl ?_
            refine ih2 (y + 1) _ (by omega) (rso_or hn hT (by omega) hb) (fun z hz => btn_or2.mpr (Or.inl (hsub z hz))) (fun q => ?_) ?_
            · have e := hcl q
              subst e
              refine btn_ext (rso_or hn hT (by omega) hb).1 hT1 (fun i hi => ?_)
              rw [btn_or2]
              refine ⟨fun z => ?_, Or.inl⟩
              rcases z with z | z
              · exact z
              · obtain ⟨z1, z2⟩ := (ov_bit (by omega) (by omega)).mp z
                exact q y i (by omega) z1 hb z2
            · rcases hor with ⟨h1, h2⟩ | h
              · subst h1
                by_cases hnew : ∃ b, b < n ∧ gbts W y b ∧ ¬ btn T b
                · obtain ⟨b, b1, b2, b3⟩ := hnew
                  exact Or.inr (pc_strict (y := b) (fun z hz => btn_or2.mpr (Or.inl hz)) (by omega) (btn_or2.mpr (Or.inr ((ov_bit (by omega) (by omega)).mpr ⟨b1, b2⟩))) b3)
                · have hall : ∀ b, b < n → gbts W y b → btn T b := fun b b1 b2 => Classical.byContradiction fun q => hnew ⟨b, b1, b2, q⟩
                  refine Or.inl ⟨btn_ext (rso_or hn hT (by omega) hb).1 hT1 (fun i hi => ?_), fun a b ha hb' h3 h4 => ?_⟩
                  · rw [btn_or2]
                    refine ⟨fun z => ?_, Or.inl⟩
                    rcases z with z | z
                    · exact z
                    · obtain ⟨z1, z2⟩ := (ov_bit (by omega) (by omega)).mp z
                      exact hall i z1 z2
                  · by_cases e : a = y
                    · subst e; exact hall b hb' h4
                    · exact h2 a b (by omega) hb' h3 h4
              · exact Or.inr (Nat.lt_of_lt_of_le h (pc_mono (fun z hz => btn_or2.mpr (Or.inl hz))))
          · refine qW.blk rfl ?_
            refine qv_iload rfl ?_
            refine qv_aload rfl ?_
            refine qv_gi ly_111 ⟨rfl, rfl, rfl⟩ (g1) ?_
            refine qv_icmp_geNf rfl rfl (by omega) (by omega) (by omega) (nx := 4) rfl ?_
            refine qW.blk rfl ?_
            refine qv_iload rfl ?_
            refine qv_iload rfl ?_
            refine qv_ishr ?_
            refine qv_iconst (v := 1) rfl ?_
            refine qv_iand ?_
            refine qv_iconst (v := 1) rfl ?_
            refine qv_icmp_ne_t (fun q => hb ((bit_is (by omega) (by omega)).mp q)) (tgt := 6) rfl ?_
            refine qW.blk rfl ?_
            refine qv_iinc (L' := [_, _, _, _, _]) rfl (nI_succ _).symm rfl ?_
            refine qv_goto (tgt := 3) rfl ?_
            refine ih2 (y + 1) T (by omega) hT hsub hcl ?_
            rcases hor with ⟨h1, h2⟩ | h
            · refine Or.inl ⟨h1, fun a b ha hb' h3 h4 => ?_⟩
              by_cases e : a = y
              · subst e; rw [h1] at hb; exact absurd h3 hb
              · exact h2 a b (by omega) hb' h3 h4
            · exact Or.inr h
      refine qW.blk rfl ?_
      refine qv_iload rfl ?_
      refine qv_aload rfl ?_
      refine qv_gi ly_111 ⟨rfl, rfl, rfl⟩ (g1) ?_
      refine qv_icmp_geNf rfl rfl (by omega) (by omega) (by omega) (nx := 2) rfl ?_
      refine qW.blk rfl ?_
      refine qv_iconst (v := 0) rfl ?_
      refine qv_istore (L' := [_, _, _, _, _]) rfl ?_
      refine qv_nil (nx := 3) rfl ?_
      exact pass n 0 S (by omega) hS (fun z hz => hz) (fun _ => rfl) (Or.inl ⟨rfl, fun a b ha => absurd ha (Nat.not_lt_zero _)⟩)
  refine qW.blk rfl ?_
  refine qv_iconst (v := 1) rfl ?_
  refine qv_iload rfl ?_
  refine qv_ishl ?_
  refine qv_top ((shl7 x (by omega)).1) ?_
  refine qv_istore (L' := [_, _, _, _, _]) rfl ?_
  refine qv_iconst (v := 0) rfl ?_
  refine qv_istore (L' := [_, _, _, _, _]) rfl ?_
  refine qv_nil (nx := 1) rfl ?_
  exact loop n 0 _ _ (by omega) (rso_0 hn hx) (Or.inr (by rw [pc_pow x (by omega)]; exact Nat.le_refl _))
theorem w_M_reachedFrom (hP : pm_np PR) {d : Nat} (hd : 6 ≤ d) {N n x : Nat} {W : VW} (hv : rview s N W) (e0 : qE s 164 0 = nI n) (hn : n ≤ 7) (hx : x < n) (hk : ∀ T, T < 128 → (∀ y, y < 7 → (btn T y ↔ RS W n x y)) → Q (some (.int (nI T))) s) : qP X PR d 226 [.ref 163, .int (nI x)] s Q := by
  refine qP.of (L := [_, _, _, _, _, _]) (by omega) (hP _ rfl) ms_Model_reachedFrom rfl ?_
  show qW X PR (d - 1) (some .int) cd_Model_reachedFrom 0 _ _ _ _
  have loop : ∀ (fu ch S : Nat) (L4 L5 : Option Value), ch < 2 → rso W n x S → (ch = 0 → clo W n S) → (ch = 1 → 8 ≤ pc S + fu) → qW X PR (d - 1) (some .int) cd_Model_reachedFrom 1 [some (.ref (163)), some (.int (nI x)), some (.int (nI S)), some (.int (nI ch)), L4, L5] [] s Q := by
    intro fu
    induction fu with
    | zero =>
      intro ch S L4 L5 hch hS h0 h1
      rcases (show ch = 0 ∨ ch = 1 by omega) with h | h
      · subst h
        refine qW.blk rfl ?_
        refine qv_iload rfl ?_
        refine qv_if_eq_t (rfl) (tgt := 13) rfl ?_
        refine qW.blk rfl ?_
        refine qv_iload rfl ?_
        refine qv_iret (rfl) ?_
        exact hk S hS.1 (rso_done hS (h0 rfl))
      · have := h1 h
        have := rso_pc hn hS
        omega
    | succ fu ih =>
      intro ch S L4 L5 hch hS h0 h1
      rcases (show ch = 0 ∨ ch = 1 by omega) with h | h
      · subst h
        refine qW.blk rfl ?_
        refine qv_iload rfl ?_
        refine qv_if_eq_t (rfl) (tgt := 13) rfl ?_
        refine qW.blk rfl ?_
        refine qv_iload rfl ?_
        refine qv_iret (rfl) ?_
        exact hk S hS.1 (rso_done hS (h0 rfl))
      · subst h
        have hfu := h1 rfl
        have pass : ∀ (c a ch T : Nat) (L5 : Option Value), a + c = n → ch < 2 → rso W n x T → (ch = 0 → T = S ∧ ∀ a' b', a' < a → b' < n → btn S a' → gbts W a' b' → btn S b') → (ch = 1 → pc S < pc T) → qW X PR (d - 1) (some .int) cd_Model_reachedFrom 3 [some (.ref (163)), some (.int (nI x)), some (.int (nI T)), some (.int (nI ch)), some (.int (nI a)), L5] [] s Q := by
          intro c
          induction c with
          | zero =>
            intro a ch T L5 ha hch hT p0 p1
            have e : a = n := by omega
            subst e
            refine qW.blk rfl ?_
            refine qv_iload rfl ?_
            refine qv_aload rfl ?_
            refine qv_gr ly_163 ⟨rfl, rfl, rfl⟩ (by omega) ?_
            refine qv_iconst (v := 0) rfl ?_
            refine qv_ia (j := 0) ly_164 rfl (by omega) (by decide) (e0) ?_
            refine qv_icmp_geNt rfl rfl (by omega) (by omega) (by omega) (tgt := 12) rfl ?_
            refine qW.blk rfl ?_
            refine qv_goto (tgt := 1) rfl ?_
            exact ih ch T _ _ hch hT (fun q => by rw [(p0 q).1]; exact (p0 q).2) (fun q => by have := p1 q; omega)
          | succ c ihc =>
            intro a ch T L5 ha hch hT p0 p1
            have inner : ∀ (c2 b ch T : Nat), b + c2 = n → ch < 2 → rso W n x T → (ch = 0 → T = S ∧ ∀ a' b', (a' < a ∨ (a' = a ∧ b' < b)) → b' < n → btn S a' → gbts W a' b' → btn S b') → (ch = 1 → pc S < pc T) → qW X PR (d - 1) (some .int) cd_Model_reachedFrom 5 [some (.ref (163)), some (.int (nI x)), some (.int (nI T)), some (.int (nI ch)), some (.int (nI a)), some (.int (nI b))] [] s Q := by
              intro c2
              induction c2 with
              | zero =>
                intro b ch T hb hch hT p0 p1
                have e : b = n := by omega
                subst e
                refine qW.blk rfl ?_
                refine qv_iload rfl ?_
                refine qv_aload rfl ?_
                refine qv_gr ly_163 ⟨rfl, rfl, rfl⟩ (by omega) ?_
                refine qv_iconst (v := 0) rfl ?_
                refine qv_ia (j := 0) ly_164 rfl (by omega) (by decide) (e0) ?_
                refine qv_icmp_geNt rfl rfl (by omega) (by omega) (by omega) (tgt := 11) rfl ?_
                refine qW.blk rfl ?_
                refine qv_iinc (L' := [_, _, _, _, _, _]) rfl (nI_succ _).symm rfl ?_
                refine qv_goto (tgt := 3) rfl ?_
                refine ihc (a + 1) ch T _ (by omega) hch hT (fun q => ⟨(p0 q).1, fun a' b' h1 h2 => (p0 q).2 a' b' (by omega) h2⟩) p1
              | succ c2 ih2 =>
                intro b ch T hb hch hT p0 p1
                have hT1 := hT.1
                have skip : (btn T a → gbts W a b → btn T b) → qW X PR (d - 1) (some .int) cd_Model_reachedFrom 5 [some (.ref (163)), some (.int (nI x)), some (.int (nI T)), some (.int (nI ch)), some (.int (nI a)), some (.int (nI (b + 1)))] [] s Q := by
                  intro hno
                  refine ih2 (b + 1) ch T (by omega) hch hT (fun q => ⟨(p0 q).1, fun a' b' h1 h2 h3 h4 => ?_⟩) p1
                  by_cases e : a' = a ∧ b' = b
                  · obtain ⟨rfl, rfl⟩ := e
                    have := (p0 q).1
                    rw [← this] at h3 ⊢
                    exact hno h3 h4
                  · exact (p0 q).2 a' b' (by omega) h2 h3 h4
                by_cases hba : btn T a
                · by_cases hbb : btn T b
                  · refine qW.blk rfl ?_
                    refine qv_iload rfl ?_
                    refine qv_aload rfl ?_
                    refine qv_gr ly_163 ⟨rfl, rfl, rfl⟩ (by omega) ?_
                    refine qv_iconst (v := 0) rfl ?_
                    refine qv_ia (j := 0) ly_164 rfl (by omega) (by decide) (e0) ?_
                    refine qv_icmp_geNf rfl rfl (by omega) (by omega) (by omega) (nx := 6) rfl ?_
                    refine qW.blk rfl ?_
                    refine qv_iload rfl ?_
                    refine qv_iload rfl ?_
                    refine qv_ishr ?_
                    refine qv_iconst (v := 1) rfl ?_
                    refine qv_iand ?_
                    refine qv_iconst (v := 1) rfl ?_
                    refine qv_icmp_ne_f (fun q => q ((bit_is (by omega) (by omega)).mpr hba)) (nx := 7) rfl ?_
                    refine qW.blk rfl ?_
                    refine qv_iload rfl ?_
                    refine qv_iload rfl ?_
                    refine qv_ishr ?_
                    refine qv_iconst (v := 1) rfl ?_
                    refine qv_iand ?_
                    refine qv_if_ne_t (fun q => (bit_is0 (by omega) (by omega)).mp q hbb) (tgt := 10) rfl ?_
                    refine qW.blk rfl ?_
                    refine qv_iinc (L' := [_, _, _, _, _, _]) rfl (nI_succ _).symm rfl ?_
                    refine qv_goto (tgt := 5) rfl ?_
                    exact skip (fun _ _ => hbb)
                  · by_cases hg : gbts W a b
                    · refine qW.blk rfl ?_
                      refine qv_iload rfl ?_
                      refine qv_aload rfl ?_
                      refine qv_gr ly_163 ⟨rfl, rfl, rfl⟩ (by omega) ?_
                      refine qv_iconst (v := 0) rfl ?_
                      refine qv_ia (j := 0) ly_164 rfl (by omega) (by decide) (e0) ?_
                      refine qv_icmp_geNf rfl rfl (by omega) (by omega) (by omega) (nx := 6) rfl ?_
                      refine qW.blk rfl ?_
                      refine qv_iload rfl ?_
                      refine qv_iload rfl ?_
                      refine qv_ishr ?_
                      refine qv_iconst (v := 1) rfl ?_
                      refine qv_iand ?_
                      refine qv_iconst (v := 1) rfl ?_
                      refine qv_icmp_ne_f (fun q => q ((bit_is (by omega) (by omega)).mpr hba)) (nx := 7) rfl ?_
                      refine qW.blk rfl ?_
                      refine qv_iload rfl ?_
                      refine qv_iload rfl ?_
                      refine qv_ishr ?_
                      refine qv_iconst (v := 1) rfl ?_
                      refine qv_iand ?_
                      refine qv_if_ne_f (fun q => q ((bit_is0 (by omega) (by omega)).mpr hbb)) (nx := 8) rfl ?_
                      refine qW.blk rfl ?_
                      refine qv_aload rfl ?_
                      refine qv_iload rfl ?_
                      refine qv_iload rfl ?_
                      refine qv_virtE (ly_163.rcv _) sg_Model_beats rfl rfl (r_M_bts hP (by omega) hv (by omega) (by omega)) ?_
                      refine qv_if_eq_f (bI_ne.mpr (hg)) (nx := 9) rfl ?_
                      refine qW.blk rfl ?_
                      refine qv_iload rfl ?_
                      refine qv_iconst (v := 1) rfl ?_
                      refine qv_iload rfl ?_
                      refine qv_ishl ?_
                      refine qv_ior ?_
                      refine qv_top ((or7 (by omega) hT1).1) ?_
                      refine qv_istore (L' := [_, _, _, _, _, _]) rfl ?_
                      refine qv_iconst (v := 1) rfl ?_
                      refine qv_istore (L' := [_, _, _, _, _, _]) rfl ?_
                      refine qv_nil (nx := 10) rfl ?_
                      refine qW.blk rfl ?_
                      refine qv_iinc (L' := [_, _, _, _, _, _]) rfl (nI_succ _).symm rfl ?_
                      refine qv_goto (tgt := 5) rfl ?_
                      refine ih2 (b + 1) 1 _ (by omega) (by omega) (rso_bit hn hT (by omega) (by omega) hba hg) (fun q => absurd q (by decide)) (fun _ => ?_)
                      have hst : pc T < pc (T ||| 2 ^ b) := pc_strict (y := b) (fun z hz => btn_or.mpr (Or.inl hz)) (by omega) (btn_or.mpr (Or.inr rfl)) hbb
                      rcases (show ch = 0 ∨ ch = 1 by omega) with h | h
                      · rw [← (p0 h).1]; exact hst
                      · exact Nat.lt_trans (p1 h) hst
                    · refine qW.blk rfl ?_
                      refine qv_iload rfl ?_
                      refine qv_aload rfl ?_
                      refine qv_gr ly_163 ⟨rfl, rfl, rfl⟩ (by omega) ?_
                      refine qv_iconst (v := 0) rfl ?_
                      refine qv_ia (j := 0) ly_164 rfl (by omega) (by decide) (e0) ?_
                      refine qv_icmp_geNf rfl rfl (by omega) (by omega) (by omega) (nx := 6) rfl ?_
                      refine qW.blk rfl ?_
                      refine qv_iload rfl ?_
                      refine qv_iload rfl ?_
                      refine qv_ishr ?_
                      refine qv_iconst (v := 1) rfl ?_
                      refine qv_iand ?_
                      refine qv_iconst (v := 1) rfl ?_
                      refine qv_icmp_ne_f (fun q => q ((bit_is (by omega) (by omega)).mpr hba)) (nx := 7) rfl ?_
                      refine qW.blk rfl ?_
                      refine qv_iload rfl ?_
                      refine qv_iload rfl ?_
                      refine qv_ishr ?_
                      refine qv_iconst (v := 1) rfl ?_
                      refine qv_iand ?_
                      refine qv_if_ne_f (fun q => q ((bit_is0 (by omega) (by omega)).mpr hbb)) (nx := 8) rfl ?_
                      refine qW.blk rfl ?_
                      refine qv_aload rfl ?_
                      refine qv_iload rfl ?_
                      refine qv_iload rfl ?_
                      refine qv_virtE (ly_163.rcv _) sg_Model_beats rfl rfl (r_M_bts hP (by omega) hv (by omega) (by omega)) ?_
                      refine qv_if_eq_t (bI_f (hg)) (tgt := 10) rfl ?_
                      refine qW.blk rfl ?_
                      refine qv_iinc (L' := [_, _, _, _, _, _]) rfl (nI_succ _).symm rfl ?_
                      refine qv_goto (tgt := 5) rfl ?_
                      exact skip (fun _ q => absurd q hg)
                · refine qW.blk rfl ?_
                  refine qv_iload rfl ?_
                  refine qv_aload rfl ?_
                  refine qv_gr ly_163 ⟨rfl, rfl, rfl⟩ (by omega) ?_
                  refine qv_iconst (v := 0) rfl ?_
                  refine qv_ia (j := 0) ly_164 rfl (by omega) (by decide) (e0) ?_
                  refine qv_icmp_geNf rfl rfl (by omega) (by omega) (by omega) (nx := 6) rfl ?_
                  refine qW.blk rfl ?_
                  refine qv_iload rfl ?_
                  refine qv_iload rfl ?_
                  refine qv_ishr ?_
                  refine qv_iconst (v := 1) rfl ?_
                  refine qv_iand ?_
                  refine qv_iconst (v := 1) rfl ?_
                  refine qv_icmp_ne_t (fun q => hba ((bit_is (by omega) (by omega)).mp q)) (tgt := 10) rfl ?_
                  refine qW.blk rfl ?_
                  refine qv_iinc (L' := [_, _, _, _, _, _]) rfl (nI_succ _).symm rfl ?_
                  refine qv_goto (tgt := 5) rfl ?_
                  exact skip (fun q => absurd q hba)
            refine qW.blk rfl ?_
            refine qv_iload rfl ?_
            refine qv_aload rfl ?_
            refine qv_gr ly_163 ⟨rfl, rfl, rfl⟩ (by omega) ?_
            refine qv_iconst (v := 0) rfl ?_
            refine qv_ia (j := 0) ly_164 rfl (by omega) (by decide) (e0) ?_
            refine qv_icmp_geNf rfl rfl (by omega) (by omega) (by omega) (nx := 4) rfl ?_
            refine qW.blk rfl ?_
            refine qv_iconst (v := 0) rfl ?_
            refine qv_istore (L' := [_, _, _, _, _, _]) rfl ?_
            refine qv_nil (nx := 5) rfl ?_
            exact inner n 0 ch T (by omega) hch hT (fun q => ⟨(p0 q).1, fun a' b' h1 => (p0 q).2 a' b' (by omega)⟩) p1
        refine qW.blk rfl ?_
        refine qv_iload rfl ?_
        refine qv_if_eq_f (by decide) (nx := 2) rfl ?_
        refine qW.blk rfl ?_
        refine qv_iconst (v := 0) rfl ?_
        refine qv_istore (L' := [_, _, _, _, _, _]) rfl ?_
        refine qv_iconst (v := 0) rfl ?_
        refine qv_istore (L' := [_, _, _, _, _, _]) rfl ?_
        refine qv_nil (nx := 3) rfl ?_
        exact pass n 0 0 S _ (by omega) (by omega) hS (fun _ => ⟨rfl, fun a' b' h => absurd h (Nat.not_lt_zero _)⟩) (fun q => absurd q (by decide))
  refine qW.blk rfl ?_
  refine qv_iconst (v := 1) rfl ?_
  refine qv_iload rfl ?_
  refine qv_ishl ?_
  refine qv_top ((shl7 x (by omega)).1) ?_
  refine qv_istore (L' := [_, _, _, _, _, _]) rfl ?_
  refine qv_iconst (v := 1) rfl ?_
  refine qv_istore (L' := [_, _, _, _, _, _]) rfl ?_
  refine qv_nil (nx := 1) rfl ?_
  exact loop 8 1 _ _ _ (by omega) (rso_0 hn hx) (fun q => absurd q (by decide)) (fun _ => by omega)
end
