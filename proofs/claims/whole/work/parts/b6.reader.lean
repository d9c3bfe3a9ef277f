/-! the class reads a text -/
/-- a byte and its number -/
def byt (v : Int32) (b : Nat) : Prop := b < 256 ∧ v.toInt = if b < 128 then (b : Int) else (b : Int) - 256
theorem byt_ex {v : Int32} (h1 : -128 ≤ v.toInt) (h2 : v.toInt ≤ 127) : ∃ b, byt v b := by
  by_cases h : 0 ≤ v.toInt
  · refine ⟨v.toInt.toNat, by omega, ?_⟩
    rw [if_pos (by omega)]; omega
  · refine ⟨(v.toInt + 256).toNat, by omega, ?_⟩
    rw [if_neg (by omega)]; omega
theorem byt_eq {v : Int32} {b c : Nat} (h : byt v b) (hc : c < 128) : v = nI c ↔ b = c := by
  obtain ⟨h1, h2⟩ := h
  have e := nI_toInt (n := c) (by omega)
  constructor
  · intro q
    rw [q, e] at h2
    split at h2 <;> omega
  · intro q
    subst q
    apply Int32.toInt_inj.mp
    rw [e, h2, if_pos hc]
theorem byt_v {v : Int32} {b : Nat} (h : byt v b) (hb : b < 128) : v = nI b := (byt_eq h hb).mpr rfl
theorem byt_in {v : Int32} {b n : Nat} (h : byt v b) (hn : n ≤ 7) : (0 ≤ v - 48 ∧ v - 48 ≤ nI n - 1) ↔ (48 ≤ b ∧ b < 48 + n) := by
  rw [in_nI1 (by omega)]
  have sub : ∀ j, v - 48 = nI j → v = nI (j + 48) := fun j q => by
    rw [← nI_add, ← q]
    exact (Int32.sub_add_cancel v 48).symm
  constructor
  · rintro ⟨j, j1, j2⟩
    have := (byt_eq h (show j + 48 < 128 by omega)).mp (sub j j2)
    omega
  · rintro ⟨h1, h2⟩
    refine ⟨b - 48, by omega, ?_⟩
    rw [byt_v h (by omega)]
    exact pk_sub h1
theorem byt_s {v : Int32} {b : Nat} (h : byt v b) (h1 : 48 ≤ b) (h2 : b < 128) : v - 48 = nI (b - 48) := by
  rw [byt_v h h2]; exact pk_sub h1
/-- the text that is read -/
def RT (s : QST) (TB z n : Nat) (B : Nat → Nat) : Prop := qX s = .ref TB ∧ qF s 70 1 = nI z ∧ qF s 70 2 = nI n ∧ ∀ j, j < z → byt (qE s TB j) (B j)
def wcd (x : Nat × Nat × Nat × Nat × Nat) : Int32 := if x.1 = 0 then nI x.2.2.2.1 else if x.1 = 1 then 7 else 8
def pcd (x : Nat × Nat × Nat × Nat × Nat) : Int32 := if x.1 = 2 then nI (x.2.2.2.1 * 7 + x.2.2.2.2) else 0
/-- the reader holds the parts ahead -/
def RC (s : QST) (p : PS) : Prop := qF s 70 3 = nI (sA p) ∧ qF s 70 4 = nI (sB p) ∧ ∀ j, j < sB p → qE s 71 j = wcd (sT p j) ∧ qE s 72 j = nI (sT p j).2.2.1 ∧ qE s 73 j = pcd (sT p j)
/-- what the reader changes -/
def rdf (s s' : QST) : Prop := qfr 70 73 s s' ∧ qF s' 70 1 = qF s 70 1 ∧ qF s' 70 2 = qF s 70 2
theorem rdf.rf (s : QST) : rdf s s := ⟨qfr.rf s, rfl, rfl⟩
theorem rdf.trans {s t u : QST} (h : rdf s t) (g : rdf t u) : rdf s u := ⟨h.1.trans g.1, g.2.1.trans h.2.1, g.2.2.trans h.2.2⟩
theorem rdf.uF {s t : QST} {k : Nat} {v : Int32} (h : rdf s t) (hk : 3 ≤ k) : rdf s (uF t 70 k v) := h.trans ⟨(qfr.rf t).uF (by omega), qF_uFk (by omega), qF_uFk (by omega)⟩
theorem rdf.uE {s t : QST} {c k : Nat} {v : Int32} (h : rdf s t) (hc : 71 ≤ c ∧ c ≤ 73) : rdf s (uE t c k v) := h.trans ⟨(qfr.rf t).uE (by omega), rfl, rfl⟩
theorem RT.fr {s s' : QST} {TB z n : Nat} {B : Nat → Nat} (h : RT s TB z n B) (hB : 123 ≤ TB) (F : rdf s s') : RT s' TB z n B := ⟨F.1.X.trans h.1, F.2.1.trans h.2.1, F.2.2.trans h.2.2.1, fun j hj => by rw [F.1.e (by omega)]; exact h.2.2.2 j hj⟩
section
variable {X : pm_X} {PR : pm_P} {s : QST} {Q : QPost} {TB z n : Nat} {B : Nat → Nat}
theorem w_sign_y (hP : pm_np PR) {d : Nat} (hd : 1 ≤ d) {a c : Nat} (hT : RT s TB z n B) (hTB : qLY TB (0, 120, [])) (hz : z ≤ 120) (h3 : qF s 70 3 = nI a) (hc7 : c < 128) (hc : isc B z c a) (hk : Q (some (.int 1)) (uF s 70 3 (nI (a + 1)))) : qP X PR d 92 [.ref 70, .int (nI c)] s Q := by
  obtain ⟨t1, t2, t3, t4⟩ := hT
  have hb := byt_v (t4 a hc.1) (by rw [hc.2]; exact hc7)
  rw [hc.2] at hb
  refine qP.of (L := [_, _]) (by omega) (hP _ rfl) ms_Reader_readSign rfl ?_
  show qW X PR (d - 1) (some .boolean) cd_Reader_readSign 0 _ _ _ _
  refine qW.blk rfl ?_
  refine qv_aload rfl ?_
  refine qv_gi ly_70 ⟨rfl, rfl, rfl⟩ (h3) ?_
  refine qv_aload rfl ?_
  refine qv_gi ly_70 ⟨rfl, rfl, rfl⟩ (t2) ?_
  refine qv_icmp_geNf rfl rfl (by omega) (by omega) (by omega) (nx := 1) rfl ?_
  refine qW.blk rfl ?_
  refine qv_aload rfl ?_
  refine qv_gx (t1 ) ?_
  refine qv_aload rfl ?_
  refine qv_gi ly_70 ⟨rfl, rfl, rfl⟩ (h3) ?_
  refine qv_ia hTB rfl (by omega) (by decide) (hb) ?_
  refine qv_iload rfl ?_
  refine qv_icmp_eqNt rfl rfl (by omega) (by omega) (by omega) (tgt := 3) rfl ?_
  refine qW.blk rfl ?_
  refine qv_aload rfl ?_
  refine qv_dup rfl ?_
  refine qv_gi ly_70 ⟨rfl, rfl, rfl⟩ (h3) ?_
  refine qv_iconst (v := 1) rfl ?_
  refine qv_iaddN (q := 1) rfl rfl ?_
  refine qv_pi ly_70 ⟨rfl, rfl, rfl⟩ (rfl) ?_
  refine qv_iconst (v := 1) rfl ?_
  refine qv_iret (by first | exact bI_ret | rfl) ?_
  exact hk
theorem w_sign_n (hP : pm_np PR) {d : Nat} (hd : 1 ≤ d) {a c : Nat} (hT : RT s TB z n B) (hTB : qLY TB (0, 120, [])) (hz : z ≤ 120) (h3 : qF s 70 3 = nI a) (ha : a ≤ z) (hc7 : c < 128) (hc : ¬ isc B z c a) (hk : Q (some (.int 0)) s) : qP X PR d 92 [.ref 70, .int (nI c)] s Q := by
  obtain ⟨t1, t2, t3, t4⟩ := hT
  refine qP.of (L := [_, _]) (by omega) (hP _ rfl) ms_Reader_readSign rfl ?_
  show qW X PR (d - 1) (some .boolean) cd_Reader_readSign 0 _ _ _ _
  by_cases haz : a < z
  · have hb := byt_eq (t4 a haz) hc7
    refine qW.blk rfl ?_
    refine qv_aload rfl ?_
    refine qv_gi ly_70 ⟨rfl, rfl, rfl⟩ (h3) ?_
    refine qv_aload rfl ?_
    refine qv_gi ly_70 ⟨rfl, rfl, rfl⟩ (t2) ?_
    refine qv_icmp_geNf rfl rfl (by omega) (by omega) (by omega) (nx := 1) rfl ?_
    refine qW.blk rfl ?_
    refine qv_aload rfl ?_
    refine qv_gx (t1 ) ?_
    refine qv_aload rfl ?_
    refine qv_gi ly_70 ⟨rfl, rfl, rfl⟩ (h3) ?_
    refine qv_ia hTB rfl (by omega) (by decide) (rfl) ?_
    refine qv_iload rfl ?_
    refine qv_icmp_eq_f (fun q => hc ⟨haz, hb.mp q⟩) (nx := 2) rfl ?_
    refine qW.blk rfl ?_
    refine qv_iconst (v := 0) rfl ?_
    refine qv_iret (by first | exact bI_ret | rfl) ?_
    exact hk
  · refine qW.blk rfl ?_
    refine qv_aload rfl ?_
    refine qv_gi ly_70 ⟨rfl, rfl, rfl⟩ (h3) ?_
    refine qv_aload rfl ?_
    refine qv_gi ly_70 ⟨rfl, rfl, rfl⟩ (t2) ?_
    refine qv_icmp_geNt rfl rfl (by omega) (by omega) (by omega) (tgt := 2) rfl ?_
    refine qW.blk rfl ?_
    refine qv_iconst (v := 0) rfl ?_
    refine qv_iret (by first | exact bI_ret | rfl) ?_
    exact hk
theorem w_rend_y (hP : pm_np PR) {d : Nat} (hd : 2 ≤ d) {a : Nat} (hT : RT s TB z n B) (hTB : qLY TB (0, 120, [])) (hz : z ≤ 120) (hn : n ≤ 7) (h3 : qF s 70 3 = nI a) (hc : isd B z n a) (hk : Q (some (.int (nI (B a - 48)))) (uF s 70 3 (nI (a + 1)))) : qP X PR d 95 [.ref 70] s Q := by
  obtain ⟨t1, t2, t3, t4⟩ := hT
  have hb := t4 a hc.1
  have hi := (byt_in hb hn).mpr hc.2
  have hs := byt_s hb hc.2.1 (by have := hc.2.2; omega)
  refine qP.of (L := [_, _]) (by omega) (hP _ rfl) ms_Reader_readEnd rfl ?_
  show qW X PR (d - 1) (some .int) cd_Reader_readEnd 0 _ _ _ _
  refine qW.blk rfl ?_
  refine qv_aload rfl ?_
  refine qv_gi ly_70 ⟨rfl, rfl, rfl⟩ (h3) ?_
  refine qv_aload rfl ?_
  refine qv_gi ly_70 ⟨rfl, rfl, rfl⟩ (t2) ?_
  refine qv_icmp_geNf rfl rfl (by omega) (by omega) (by omega) (nx := 1) rfl ?_
  refine qW.blk rfl ?_
  refine qv_aload rfl ?_
  refine qv_gx (t1 ) ?_
  refine qv_aload rfl ?_
  refine qv_gi ly_70 ⟨rfl, rfl, rfl⟩ (h3) ?_
  refine qv_ia hTB rfl (by omega) (by decide) (rfl) ?_
  refine qv_iconst (v := 48) rfl ?_
  refine qv_isub ?_
  refine qv_iconst (v := 0) rfl ?_
  refine qv_aload rfl ?_
  refine qv_gi ly_70 ⟨rfl, rfl, rfl⟩ (t3) ?_
  refine qv_iconst (v := 1) rfl ?_
  refine qv_isub ?_
  refine qv_staticE sg_Desk_within rfl (r_Desk_within hP (by omega) _ 0 (nI n - 1) _) ?_
  refine qv_if_ne_t (bI_ne.mpr (hi)) (tgt := 3) rfl ?_
  refine qW.blk rfl ?_
  refine qv_aload rfl ?_
  refine qv_gx (t1 ) ?_
  refine qv_aload rfl ?_
  refine qv_gi ly_70 ⟨rfl, rfl, rfl⟩ (h3) ?_
  refine qv_ia hTB rfl (by omega) (by decide) (rfl) ?_
  refine qv_iconst (v := 48) rfl ?_
  refine qv_isub ?_
  refine qv_top (hs) ?_
  refine qv_istore (L' := [_, _]) rfl ?_
  refine qv_aload rfl ?_
  refine qv_dup rfl ?_
  refine qv_gi ly_70 ⟨rfl, rfl, rfl⟩ (h3) ?_
  refine qv_iconst (v := 1) rfl ?_
  refine qv_iaddN (q := 1) rfl rfl ?_
  refine qv_pi ly_70 ⟨rfl, rfl, rfl⟩ (rfl) ?_
  refine qv_iload rfl ?_
  refine qv_iret (rfl) ?_
  exact hk
theorem w_rend_n (hP : pm_np PR) {d : Nat} (hd : 2 ≤ d) {a : Nat} (hT : RT s TB z n B) (hTB : qLY TB (0, 120, [])) (hz : z ≤ 120) (hn : n ≤ 7) (h3 : qF s 70 3 = nI a) (ha : a ≤ z) (hc : ¬ isd B z n a) (hk : Q (some (.int (-1))) s) : qP X PR d 95 [.ref 70] s Q := by
  obtain ⟨t1, t2, t3, t4⟩ := hT
  refine qP.of (L := [_, _]) (by omega) (hP _ rfl) ms_Reader_readEnd rfl ?_
  show qW X PR (d - 1) (some .int) cd_Reader_readEnd 0 _ _ _ _
  by_cases haz : a < z
  · have hi := byt_in (t4 a haz) hn
    refine qW.blk rfl ?_
    refine qv_aload rfl ?_
    refine qv_gi ly_70 ⟨rfl, rfl, rfl⟩ (h3) ?_
    refine qv_aload rfl ?_
    refine qv_gi ly_70 ⟨rfl, rfl, rfl⟩ (t2) ?_
    refine qv_icmp_geNf rfl rfl (by omega) (by omega) (by omega) (nx := 1) rfl ?_
    refine qW.blk rfl ?_
    refine qv_aload rfl ?_
    refine qv_gx (t1 ) ?_
    refine qv_aload rfl ?_
    refine qv_gi ly_70 ⟨rfl, rfl, rfl⟩ (h3) ?_
    refine qv_ia hTB rfl (by omega) (by decide) (rfl) ?_
    refine qv_iconst (v := 48) rfl ?_
    refine qv_isub ?_
    refine qv_iconst (v := 0) rfl ?_
    refine qv_aload rfl ?_
    refine qv_gi ly_70 ⟨rfl, rfl, rfl⟩ (t3) ?_
    refine qv_iconst (v := 1) rfl ?_
    refine qv_isub ?_
    refine qv_staticE sg_Desk_within rfl (r_Desk_within hP (by omega) _ 0 (nI n - 1) _) ?_
    refine qv_if_ne_f (fun zq => zq (bI_f (fun q => hc ⟨haz, hi.mp q⟩))) (nx := 2) rfl ?_
    refine qW.blk rfl ?_
    refine qv_iconst (v := (-1)) rfl ?_
    refine qv_iret (rfl) ?_
    exact hk
  · refine qW.blk rfl ?_
    refine qv_aload rfl ?_
    refine qv_gi ly_70 ⟨rfl, rfl, rfl⟩ (h3) ?_
    refine qv_aload rfl ?_
    refine qv_gi ly_70 ⟨rfl, rfl, rfl⟩ (t2) ?_
    refine qv_icmp_geNt rfl rfl (by omega) (by omega) (by omega) (tgt := 2) rfl ?_
    refine qW.blk rfl ?_
    refine qv_iconst (v := (-1)) rfl ?_
    refine qv_iret (rfl) ?_
    exact hk
theorem w_addNode (hP : pm_np PR) {d : Nat} (hd : 1 ≤ d) {b : Nat} (v : Int32) (h4 : qF s 70 4 = nI b) (hb : b < 120) (hk : Q (some (.int (nI b))) (uF (uE (uE (uE s 71 b v) 72 b 0) 73 b 0) 70 4 (nI (b + 1)))) : qP X PR d 91 [.ref 70, .int v] s Q := by
  refine qP.of (L := [_, _, _]) (by omega) (hP _ rfl) ms_Reader_addNode rfl ?_
  show qW X PR (d - 1) (some .int) cd_Reader_addNode 0 _ _ _ _
  refine qW.blk rfl ?_
  refine qv_aload rfl ?_
  refine qv_gi ly_70 ⟨rfl, rfl, rfl⟩ (h4) ?_
  refine qv_istore (L' := [_, _, _]) rfl ?_
  refine qv_aload rfl ?_
  refine qv_gr ly_70 ⟨rfl, rfl, rfl⟩ (by omega) ?_
  refine qv_iload rfl ?_
  refine qv_iload rfl ?_
  refine qv_is ly_71 rfl (by omega) (by decide) ?_
  refine qv_aload rfl ?_
  refine qv_gr ly_70 ⟨rfl, rfl, rfl⟩ (by omega) ?_
  refine qv_iload rfl ?_
  refine qv_iconst (v := 0) rfl ?_
  refine qv_is ly_72 rfl (by omega) (by decide) ?_
  refine qv_aload rfl ?_
  refine qv_gr ly_70 ⟨rfl, rfl, rfl⟩ (by omega) ?_
  refine qv_iload rfl ?_
  refine qv_iconst (v := 0) rfl ?_
  refine qv_is ly_73 rfl (by omega) (by decide) ?_
  refine qv_aload rfl ?_
  refine qv_dup rfl ?_
  refine qv_gi ly_70 ⟨rfl, rfl, rfl⟩ (h4) ?_
  refine qv_iconst (v := 1) rfl ?_
  refine qv_iaddN (q := 1) rfl rfl ?_
  refine qv_pi ly_70 ⟨rfl, rfl, rfl⟩ (rfl) ?_
  refine qv_iload rfl ?_
  refine qv_iret (rfl) ?_
  exact hk
/-- a part is added -/
theorem RC_add {p : PS} {kd x y : Nat} {v : Int32} {len : Nat} {s2 : QST} (h : RC s p) (hv : v = wcd (kd, 0, 0, x, y)) (hp0 : pcd (kd, 0, 0, x, y) = 0) (e2 : ∀ k, k ≠ 3 → qF s2 70 k = qF (uF (uE (uE (uE s 71 (sB p) v) 72 (sB p) 0) 73 (sB p) 0) 70 4 (nI (sB p + 1))) 70 k) (e3 : qF s2 70 3 = nI (sA p + len)) (e4 : ∀ c, 71 ≤ c → c ≤ 73 → qE s2 c = qE (uF (uE (uE (uE s 71 (sB p) v) 72 (sB p) 0) 73 (sB p) 0) 70 4 (nI (sB p + 1))) c) : RC s2 (pOpen p len kd x y) := by
  obtain ⟨h1, h2, h3⟩ := h
  refine ⟨e3, ?_, fun j hj => ?_⟩
  · rw [e2 4 (by decide), qF_uFs]; rfl
  · have hj' : j < sB p + 1 := hj
    show qE s2 71 j = wcd (updN (sT p) (sB p) (kd, 0, 0, x, y) j) ∧ qE s2 72 j = nI (updN (sT p) (sB p) (kd, 0, 0, x, y) j).2.2.1 ∧ qE s2 73 j = pcd (updN (sT p) (sB p) (kd, 0, 0, x, y) j)
    rw [e4 71 (by decide) (by decide), e4 72 (by decide) (by decide), e4 73 (by decide) (by decide), qE_uF, qE_uEc (by decide), qE_uEc (by decide), qE_uEc (c := 73) (c' := 72) (by decide)]
    by_cases e : j = sB p
    · subst e
      rw [updN_s, qE_uEs, qE_uEs, qE_uEs, hp0]
      exact ⟨hv, rfl, rfl⟩
    · rw [updN_n e, qE_uEk e, qE_uEk e, qE_uEk e]
      have a := h3 j (by omega)
      refine ⟨a.1, ?_, ?_⟩
      · rw [qE_uEc (by decide)]; exact a.2.1
      · rw [qE_uEc (by decide), qE_uEc (by decide)]; exact a.2.2
end
