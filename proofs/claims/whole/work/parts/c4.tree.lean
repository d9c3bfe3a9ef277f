/-! tree is alike -/
theorem nI_nm1 {m : Nat} (h : m < 2 ^ 31) : ¬ nI m = -1 := by
  intro z
  have e1 := congrArg Int32.toInt z
  rw [nI_toInt h] at e1
  have : (-1 : Int32).toInt = -1 := by decide
  rw [this] at e1
  omega
theorem CB_3 {C : Nat → Nat} {v : Nat} (h : CB C) (hv : v ≤ 12) : CB (updN C 3 v) := by
  have e : ∀ k, k ≠ 3 → updN C 3 v k = C k := fun k hk => updN_n hk
  obtain ⟨h1, h2, h3, h4, h5, h6⟩ := h
  refine ⟨by rw [e 0 (by decide)]; exact h1, by rw [e 0 (by decide)]; exact h2, by rw [e 1 (by decide)]; exact h3, by rw [e 2 (by decide)]; exact h4, by rw [updN_s]; exact hv, fun m hm => ?_⟩
  rw [e 2 (by decide)] at hm
  obtain ⟨a1, a2, a3, a4, a5, a6, a7⟩ := h6 m hm
  rw [e (10 + m) (by omega), e (20 + m) (by omega), e (30 + m) (by omega), e (40 + m) (by omega), e (50 + m) (by omega)]
  exact ⟨a1, a2, a3, a4, a5, a6, fun x hx => by rw [e (60 + 7 * m + x) (by omega), e (130 + 7 * m + x) (by omega)]; exact a7 x hx⟩
theorem app_get {R l : List va_E} {k : Nat} {e : va_E} (h : R[k]? = some e) : (R ++ l)[k]? = some e := by
  rw [List.getElem?_append_left (List.getElem?_eq_some_iff.mp h).1]; exact h
theorem cTD.app {R l : List va_E} {T : Nat} {D : TD} (h : cTD R T D) : cTD (R ++ l) T D := by
  obtain ⟨w, sc, pr, ⟨h1, h2, h3, h4, h5⟩, h6⟩ := h
  exact ⟨w, sc, pr, ⟨h1, app_get h2, app_get h3, app_get h4, app_get h5⟩, h6⟩
theorem cC.as {s s' : QST} {c v : Nat} {C : Nat → Nat} (h : cC s c C) (h0 : ∀ k, k ≠ 3 → qF s' c k = qF s c k) (h3 : qF s' c 3 = nI v) (hF : ∀ k, k ≠ c → qF s' k = qF s k) (hE : qE s' = qE s) : cC s' c (updN C 3 v) := by
  have e : ∀ k, k ≠ 3 → updN C 3 v k = C k := fun k hk => updN_n hk
  obtain ⟨g0, g1, g2, g3, g4⟩ := h
  refine ⟨by rw [e 0 (by decide), h0 0 (by decide)]; exact g0, by rw [e 1 (by decide), h0 1 (by decide)]; exact g1, by rw [e 2 (by decide), h0 2 (by decide)]; exact g2, by rw [updN_s]; exact h3, fun m hm => ?_⟩
  rw [e 2 (by decide)] at hm
  obtain ⟨a0, a1, a2, a3, a4, a5, a6⟩ := g4 m hm
  unfold cM
  rw [hF (c + 3 + 3 * m) (by omega), hE, e (10 + m) (by omega), e (20 + m) (by omega), e (30 + m) (by omega), e (40 + m) (by omega), e (50 + m) (by omega)]
  exact ⟨a0, a1, a2, a3, a4, a5, fun x hx => by rw [e (60 + 7 * m + x) (by omega), e (130 + 7 * m + x) (by omega)]; exact a6 x hx⟩
theorem cC.sm {s s' : QST} {c : Nat} {C : Nat → Nat} (h : cC s c C) (hF : ∀ k, c ≤ k → k ≤ c + 29 → qF s' k = qF s k) (hE : qE s' = qE s) (hM : C 2 ≤ 9) : cC s' c C := by
  obtain ⟨g0, g1, g2, g3, g4⟩ := h
  refine ⟨by rw [hF c (by omega) (by omega)]; exact g0, by rw [hF c (by omega) (by omega)]; exact g1, by rw [hF c (by omega) (by omega)]; exact g2, by rw [hF c (by omega) (by omega)]; exact g3, fun m hm => (g4 m hm).cg (hF _ (by omega) (by omega)) (by rw [hE]) (by rw [hE])⟩
theorem rTD_pt {s s' : QST} {t : Nat} {D : TD} (h : rTD s t D) (e1 : qE s' 166 t = qE s 166 t) (e2 : qE s' 167 t = qE s 167 t) (e3 : ∀ c, 168 ≤ c → c ≤ 172 → ∀ n, n < 100 → qE s' c (100 * t + n) = qE s c (100 * t + n)) : rTD s' t D := by
  obtain ⟨⟨h1, h2, h3, h4, h5⟩, h6⟩ := h
  refine ⟨⟨e1.trans h1, h2, h3, h4, fun n hn => ?_⟩, e2.trans h6⟩
  have a := h5 n hn
  have hn100 : n < 100 := by omega
  refine ⟨(e3 168 (by omega) (by omega) n hn100).trans a.1, fun k => ⟨(e3 169 (by omega) (by omega) n hn100).trans (a.2.1 k).1, (e3 170 (by omega) (by omega) n hn100).trans (a.2.1 k).2⟩, fun k => (e3 171 (by omega) (by omega) n hn100).trans (a.2.2.1 k), fun k => (e3 172 (by omega) (by omega) n hn100).trans (a.2.2.2 k)⟩
theorem cpy0 {f g : Nat → Int32} {K n : Nat} (h : n < K) : va_cpy f g 0 0 K n = f n := by
  show (if 0 ≤ n ∧ n < 0 + K then f (0 + (n - 0)) else g n) = f n
  rw [if_pos ⟨Nat.zero_le _, by omega⟩, Nat.zero_add, Nat.sub_zero]
theorem ctr_RC {s : QST} {p : PS} (hC : RC s p) (hp : pre_ok (sT p) (sB p)) : ctr (sT p) (sB p) (va_cpy (qE s 71) (fun _ => 0) 0 0 (sB p)) (va_cpy (qE s 72) (fun _ => 0) 0 0 (sB p)) (va_cpy (qE s 73) (fun _ => 0) 0 0 (sB p)) := by
  intro n hn
  obtain ⟨a1, a2, a3⟩ := hC.2.2 n hn
  obtain ⟨b1, b2, b3, b4⟩ := hp n hn
  rw [cpy0 hn, cpy0 hn, cpy0 hn, a1, a2, a3]
  refine ⟨b1, fun k => ⟨b2 k, if_pos k⟩, fun k => ?_, fun k => ⟨?_, if_pos k, (b3 k).1, (b3 k).2⟩, fun k => ⟨(b4 k).1, (b4 k).2.1, (b4 k).2.2, rfl⟩⟩
  · unfold wcd; rw [if_neg (by omega), if_pos k]
  · unfold wcd; rw [if_neg (by omega), if_neg (by omega)]
section
variable {X : pm_X} {PR : pm_P}
theorem Sim_tree (hP : pm_np PR) (b : Int32) : Sim X PR 122 186 [.int b] := by
  intro d A hd hA
  have hC := hA.1
  have hn1 := hC.1
  have hn7 := hC.2.1
  have h12 := hC.2.2.2.2.1
  rcases pl_of b 8 with ⟨l, hl8, rfl⟩ | hnb
  · obtain ⟨s1, s2, s3, s4, -⟩ := hA.2.2.2.2 l hl8
    have il : nI 0 ≤ nI l ∧ nI l ≤ nI 7 := (w_iff (by omega) (by omega) (by omega)).mpr ⟨by omega, by omega⟩
    by_cases h12' : aC A 3 = 12
    · refine ⟨.int (-2), A, hA, ?_, ?_⟩
      · intro s Q hJ hk
        refine qP.of (L := [_, _, _, _, _, _]) (by omega) (hP _ rfl) ms_Desk_tree rfl ?_
        show qW X PR (d - 1) (some .int) cd_Desk_tree 0 _ _ _ _
        refine qW.blk rfl ?_
        refine qv_aload rfl ?_
        refine qv_iload rfl ?_
        refine qv_virtE (ly_8.rcv _) sg_Desk_shelfAt rfl rfl (r_shelfAt_y hP (by omega) hl8) ?_
        refine qv_astore (L' := [_, _, _, _, _, _]) rfl ?_
        refine qv_aload rfl ?_
        refine qv_nonnull_t (tgt := 2) rfl ?_
        refine qW.blk rfl ?_
        refine qv_aload rfl ?_
        refine qv_gr ly_8 ⟨rfl, rfl, rfl⟩ (by omega) ?_
        refine qv_gi ly_9 ⟨rfl, rfl, rfl⟩ (hJ.1.2.2.2.1) ?_
        refine qv_iconst (v := 12) rfl ?_
        refine qv_icmp_ltNf (q := 12) rfl rfl (by omega) (by omega) (by omega) (nx := 3) rfl ?_
        refine qW.blk rfl ?_
        refine qv_iconst (v := (-2)) rfl ?_
        refine qv_iret (rfl) ?_
        exact hk s hJ (cfr.rf s)
      · intro s Q hJ hk
        have J1 := hJ.thr (v := 0)
        refine qP.of (L := [_, _, _, _, _, _]) (by omega) (hP _ rfl) ms_Model_tree rfl ?_
        show qW X PR (d - 1) (some .int) cd_Model_tree 0 _ _ _ _
        refine qW.blk rfl ?_
        refine qv_aload rfl ?_
        refine qv_iconst (v := 0) rfl ?_
        refine qv_pi ly_163 ⟨rfl, rfl, rfl⟩ (rfl) ?_
        refine qv_iload rfl ?_
        refine qv_iconst (v := 0) rfl ?_
        refine qv_iconst (v := 7) rfl ?_
        refine qv_staticE sg_Model_in rfl (r_Model_in hP (by omega) (nI l) (nI 0) (nI 7) _) ?_
        refine qv_if_ne_t (bI_ne.mpr (il)) (tgt := 2) rfl ?_
        refine qW.blk rfl ?_
        refine qv_aload rfl ?_
        refine qv_gr ly_163 ⟨rfl, rfl, rfl⟩ (by omega) ?_
        refine qv_iconst (v := 3) rfl ?_
        refine qv_ia (j := 3) ly_164 rfl (by omega) (by decide) (J1.1 3 (by decide)) ?_
        refine qv_iconst (v := 12) rfl ?_
        refine qv_icmp_neNf (q := 12) rfl rfl (by omega) (by omega) (by omega) (nx := 3) rfl ?_
        refine qW.blk rfl ?_
        refine qv_iconst (v := (-2)) rfl ?_
        refine qv_iret (rfl) ?_
        exact hk (uF s 163 0 0) J1 ((qfr.rf s).uF (by omega))
    have h11 : aC A 3 < 12 := by omega
    by_cases hr : refB (aS A l).1 (aS A l).2.1 = 0
    · have h2 := refB_0 hr
      have hso : (aS A l).2.1 = 0 := by
        refine Classical.byContradiction fun q => ?_
        unfold refB at hr
        rw [if_pos ⟨h2, q⟩] at hr
        exact absurd hr (by decide)
      obtain ⟨B, hB⟩ := bytes_ex (s4 h2 hso)
      have hl := ftv_lt (B := B) (z := (aS A l).2.2.1) (n := aC A 0)
      have hBc : ∀ s, JC s A → ∀ j, j < (aS A l).2.2.1 → byt (qE s (123 + 5 * l + 4) j) (B j) := fun s hJ j hj => by
        obtain ⟨c1, c2, -⟩ := hJ.2.2.2.2 l hl8
        rw [(c2 h2).2.2 j (by omega)]; exact hB j (by omega)
      have hBr : ∀ s, JR s A → ∀ j, j < (aS A l).2.2.1 → B j < 256 ∧ (qL s 201 (120 * l + j)).toInt32 &&& 255 = nI (B j) := fun s J1 j hj => by
        obtain ⟨c1, c2, -⟩ := J1.2.2.2.2.1 l hl8
        rw [(c2 h2).2.2 j (by omega), l2i_i2l]
        exact ⟨(hB j (by omega)).1, byt_and (hB j (by omega))⟩
      have hr0 : refB (aS A l).1 (aS A l).2.1 = nI 0 := hr
      by_cases hv : ftv B (aS A l).2.2.1 (aC A 0) = -1
      · -- it is a TREE
        have hgood : (pp B (aS A l).2.2.1 (aC A 0) 6 p00).1 = 1 := by
          refine Classical.byContradiction fun q => ?_
          unfold ftv at hv
          rw [if_neg (fun w => q w.1)] at hv
          exact nI_nm1 (by omega) hv
        obtain ⟨hD, hSC⟩ := tdn_ok hn7 s3 hgood
        obtain ⟨p, hp⟩ : ∃ p, p = (pp B (aS A l).2.2.1 (aC A 0) 6 p00).2 := ⟨_, rfl⟩
        have hDp : tdn B (aS A l).2.2.1 (aC A 0) = (sT p, sU p, sW p, sB p, sQ p, orb (sT p) 0 (sB p), oab (sT p) (sB p)) := by rw [hp]; rfl
        rw [hDp] at hD
        rw [← hp] at hSC
        have hK0 : 0 < sB p := hD.1
        have hK60 : sB p ≤ 60 := hD.2.1
        have hpre : pre_ok (sT p) (sB p) := hD.2.2.1
        have htr : tr_ok (sU p) (sB p) := hD.2.2.2.1
        have hqah : sQ p = qah (sT p) (sB p) := hD.2.2.2.2.2.1
        refine ⟨.int (nI (aC A 3)), (updN (aC A) 3 (aC A 3 + 1), aP A, aI A, updN (aT A) (aC A 3) (sT p, sU p, sW p, sB p, sQ p, orb (sT p) 0 (sB p), oab (sT p) (sB p)), aS A), ⟨CB_3 hC (by omega), hA.2.1, fun h => ⟨(hA.2.2.1 h).1, ?_⟩, fun t ht => ?_, hA.2.2.2.2⟩, ?_, ?_⟩
        · show aP A 3 ≤ updN (aC A) 3 (aC A 3 + 1) 3
          rw [updN_s]; have := (hA.2.2.1 h).2; omega
        · have ht' : t < updN (aC A) 3 (aC A 3 + 1) 3 := ht
          rw [updN_s] at ht'
          show tdOK (updN (aT A) (aC A 3) _ t)
          by_cases e : t = aC A 3
          · rw [e, updN_s]; exact hD
          · rw [updN_n e]; exact hA.2.2.2.1 t (by omega)
        · intro s Q hJ hk
          obtain ⟨c1, c2, -⟩ := hJ.2.2.2.2 l hl8
          obtain ⟨c3, c4, c5⟩ := c2 h2
          have fin : ∀ t1, qfr 70 73 (uX s (.ref (123 + 5 * l + 4))) t1 → RC t1 p → ∀ (sX : QST), sX = uF (uT (trS t1 (qR t1) [.int (nI (sB p)), .ref (204 + (qR t1).length + 1), .ref (204 + (qR t1).length + 2), .ref (204 + (qR t1).length + 3), .int (nI (qah (sT p) (sB p))), .int (nI (orb (sT p) 0 (sB p))), .int (nI (oab (sT p) (sB p)))] (.inl (0, sB p, .inl (va_cpy (qE t1 71) (fun _ => 0) 0 0 (sB p)))) (.inl (0, sB p, .inl (va_cpy (qE t1 72) (fun _ => 0) 0 0 (sB p)))) (.inl (0, sB p, .inl (va_cpy (qE t1 73) (fun _ => 0) 0 0 (sB p)))) (qN t1 + pm_N 8 + sB p + sB p + sB p)) 11 (aC A 3) (some (204 + (qR t1).length))) 9 3 (nI (aC A 3 + 1)) → Q (some (.int (nI (aC A 3)))) sX := by
            intro t1 F1 hRC sX hsX
            have J1 : JC t1 A := (JC_uX hJ).fr hA F1 (by omega)
            have gE : qE sX = qE t1 := by rw [hsX]; rfl
            have gL : qL sX = qL t1 := by rw [hsX]; rfl
            have gF : ∀ k, k ≠ 9 → qF sX k = qF t1 k := fun k hk9 => by rw [hsX, qF_uFc hk9]; rfl
            have gF9 : ∀ k, k ≠ 3 → qF sX 9 k = qF t1 9 k := fun k hk3 => by rw [hsX, qF_uFk hk3]; rfl
            have gF93 : qF sX 9 3 = nI (aC A 3 + 1) := by rw [hsX, qF_uFs]
            have gT11 : ∀ k, k ≠ aC A 3 → qT sX 11 k = qT t1 11 k := fun k hk => by rw [hsX, qT_uF, qT_uTk hk]; rfl
            have gTn : qT sX 11 (aC A 3) = some (204 + (qR t1).length) := by rw [hsX, qT_uF, qT_uTs]
            have gT : ∀ c, c ≠ 11 → qT sX c = qT t1 c := fun c hc => by rw [hsX, qT_uF, qT_uTc hc]; rfl
            have gR : qR sX = qR t1 ++ [.inr (8, [.int (nI (sB p)), .ref (204 + (qR t1).length + 1), .ref (204 + (qR t1).length + 2), .ref (204 + (qR t1).length + 3), .int (nI (qah (sT p) (sB p))), .int (nI (orb (sT p) 0 (sB p))), .int (nI (oab (sT p) (sB p)))]), .inl (0, sB p, .inl (va_cpy (qE t1 71) (fun _ => 0) 0 0 (sB p))), .inl (0, sB p, .inl (va_cpy (qE t1 72) (fun _ => 0) 0 0 (sB p))), .inl (0, sB p, .inl (va_cpy (qE t1 73) (fun _ => 0) 0 0 (sB p)))] := by rw [hsX]; rfl
            have gN : qN sX = qN t1 + pm_N 8 + sB p + sB p + sB p := by rw [hsX]; rfl
            have eR1 : qR t1 = qR s := F1.R
            have eN1 : qN t1 = qN s := F1.N
            have hlX : ∃ l, qR sX = qR s ++ l ∧ l.length ≤ 4 := by
              rw [gR, eR1]; exact ⟨_, rfl, Nat.le_refl 4⟩
            refine hk sX ⟨J1.1.as gF9 gF93 gF gE, ?_, fun h => ?_, fun t ht => ?_, fun x hx => ?_⟩ ⟨fun c hc => ?_, hlX, ?_⟩
            · show qF sX 8 2 = _
              rw [gF 8 (by decide)]; exact J1.2.1
            · obtain ⟨g1, g2⟩ := J1.2.2.1 h
              refine ⟨g1.sm (fun k h1 h2 => gF k (by omega)) gE (hA.2.2.1 h).1.2.2.2.1, fun t ht => ?_⟩
              have := (hA.2.2.1 h).2
              have ht' : t < aP A 3 := ht
              rw [gT 41 (by decide), gT11 t (by omega)]
              exact g2 t ht'
            · have ht' : t < updN (aC A) 3 (aC A 3 + 1) 3 := ht
              rw [updN_s] at ht'
              show ∃ T, qT sX 11 t = some T ∧ cTD (qR sX) T (updN (aT A) (aC A 3) _ t)
              by_cases e : t = aC A 3
              · rw [e, updN_s]
                refine ⟨_, gTn, _, _, _, ⟨by omega, ?_, ?_, ?_, ?_⟩, ctr_RC hRC hpre⟩
                · rw [gR, List.getElem?_append_right (by omega), show 204 + (qR t1).length - 204 - (qR t1).length = 0 by omega]
                  rw [← hqah]; rfl
                · rw [gR, List.getElem?_append_right (by omega), show 204 + (qR t1).length + 1 - 204 - (qR t1).length = 1 by omega]
                  rfl
                · rw [gR, List.getElem?_append_right (by omega), show 204 + (qR t1).length + 2 - 204 - (qR t1).length = 2 by omega]
                  rfl
                · rw [gR, List.getElem?_append_right (by omega), show 204 + (qR t1).length + 3 - 204 - (qR t1).length = 3 by omega]
                  rfl
              · rw [updN_n e]
                obtain ⟨T, T1, T2⟩ := J1.2.2.2.1 t (by omega)
                exact ⟨T, (gT11 t e).trans T1, by rw [gR]; exact T2.app⟩
            · exact (J1.2.2.2.2 x hx).cg (gF _ (by omega)) (by rw [gE]) (gF _ (by omega))
            · obtain ⟨x1, x2, x3, x4⟩ := F1.1 c (by omega)
              exact ⟨(gF c (by omega)).trans x1, by rw [gE]; exact x2, by rw [gL]; exact x3, (gT c (by omega)).trans x4⟩
            · rw [gN, eN1]
              have : pm_N 8 = 7 := rfl
              omega
          refine qP.of (L := [_, _, _, _, _, _]) (by omega) (hP _ rfl) ms_Desk_tree rfl ?_
          show qW X PR (d - 1) (some .int) cd_Desk_tree 0 _ _ _ _
          refine qW.blk rfl ?_
          refine qv_aload rfl ?_
          refine qv_iload rfl ?_
          refine qv_virtE (ly_8.rcv _) sg_Desk_shelfAt rfl rfl (r_shelfAt_y hP (by omega) hl8) ?_
          refine qv_astore (L' := [_, _, _, _, _, _]) rfl ?_
          refine qv_aload rfl ?_
          refine qv_nonnull_t (tgt := 2) rfl ?_
          refine qW.blk rfl ?_
          refine qv_aload rfl ?_
          refine qv_gr ly_8 ⟨rfl, rfl, rfl⟩ (by omega) ?_
          refine qv_gi ly_9 ⟨rfl, rfl, rfl⟩ (hJ.1.2.2.2.1) ?_
          refine qv_iconst (v := 12) rfl ?_
          refine qv_icmp_ltNt (q := 12) rfl rfl (by omega) (by omega) (by omega) (tgt := 4) rfl ?_
          refine qW.blk rfl ?_
          refine qv_aload rfl ?_
          refine qv_iconst (v := 3) rfl ?_
          refine qv_staticE sg_Desk_refusalOf rfl (r_bytesRefusal hP (by omega) hl8 c1 s1 (fun _ => c3) s2) ?_
          refine qv_istore (L' := [_, _, _, _, _, _]) rfl ?_
          refine qv_iload rfl ?_
          refine qv_if_eq_t (hr) (tgt := 6) rfl ?_
          refine qW.blk rfl ?_
          refine qv_aload rfl ?_
          refine qv_gr ly_8 ⟨rfl, rfl, rfl⟩ (by omega) ?_
          refine qv_aload rfl ?_
          refine qv_gr (ly_sh (d := l) (by omega)) ⟨rfl, rfl, rfl⟩ (by omega) ?_
          refine qv_aload rfl ?_
          refine qv_gi (ly_sh (d := l) (by omega)) ⟨rfl, rfl, rfl⟩ (c4) ?_
          refine qv_aload rfl ?_
          refine qv_gr ly_8 ⟨rfl, rfl, rfl⟩ (by omega) ?_
          refine qv_gi ly_9 ⟨rfl, rfl, rfl⟩ (hJ.1.1) ?_
          refine qv_virt (ly_70.rcv _) sg_Reader_faultOf rfl rfl (w_C_faultOf hP (by omega) (ly_shc hl8) (by omega) s3 hn7 (hBc s hJ) (fun t1 F1 q1 => ?_)) 
          refine qv_istore (L' := [_, _, _, _, _, _]) rfl ?_
          refine qv_iload rfl ?_
          refine qv_iconst (v := (-1)) rfl ?_
          refine qv_icmp_eq_t (hv) (tgt := 8) rfl ?_
          have hRC : RC t1 p := by rw [hp]; exact q1 hgood
          have J1 : JC t1 A := (JC_uX hJ).fr hA F1 (by omega)
          refine qW.blk rfl ?_
          refine qv_aload rfl ?_
          refine qv_gr ly_8 ⟨rfl, rfl, rfl⟩ (by omega) ?_
          refine qv_gi ly_9 ⟨rfl, rfl, rfl⟩ (J1.1.2.2.2.1) ?_
          refine qv_istore (L' := [_, _, _, _, _, _]) rfl ?_
          refine qv_aload rfl ?_
          refine qv_gr ly_8 ⟨rfl, rfl, rfl⟩ (by omega) ?_
          refine qv_gr ly_9 ⟨rfl, rfl, rfl⟩ (by omega) ?_
          refine qv_iload rfl ?_
          refine qv_aload rfl ?_
          refine qv_gr ly_8 ⟨rfl, rfl, rfl⟩ (by omega) ?_
          refine qv_virt (ly_70.rcv _) sg_Reader_treeRead rfl rfl (w_treeRead hP (by omega) hRC hK60 (ctr_RC hRC hpre) ?_) 
          refine qv_as ly_11 rfl (by omega) (by decide) (trS_get (k := 0) rfl) ?_
          refine qv_aload rfl ?_
          refine qv_gr ly_8 ⟨rfl, rfl, rfl⟩ (by omega) ?_
          refine qv_iload rfl ?_
          refine qv_iconst (v := 1) rfl ?_
          refine qv_iaddN (q := 1) rfl rfl ?_
          refine qv_pi ly_9 ⟨rfl, rfl, rfl⟩ (rfl) ?_
          refine qv_iload rfl ?_
          refine qv_iret (rfl) ?_
          exact fin t1 F1 hRC _ rfl
        · intro s Q hJ hk
          have J1 := hJ.thr (v := 0)
          obtain ⟨c1, c2, -⟩ := J1.2.2.2.2.1 l hl8
          obtain ⟨c3, c4, c5⟩ := c2 h2
          -- what stands at the end
          have fin : ∀ (t1 tX sX : QST), rfr (uF s 163 0 0) t1 → ndr t1 (sB p) (sU p) → qF t1 163 15 = nI (sB p) → qF t1 163 16 = nI (sQ p) → qfr 163 202 t1 tX → qF tX = qF t1 → qL tX = qL t1 → (∀ c, ¬ (168 ≤ c ∧ c ≤ 172) → qE tX c = qE t1 c) → (∀ c, 168 ≤ c → c ≤ 172 → ∀ j, qE tX c j = if 100 * aC A 3 ≤ j ∧ j < 100 * aC A 3 + sB p then qE t1 (c + 5) (j - 100 * aC A 3) else qE t1 c j) → sX = uE (uE (uE tX 166 (aC A 3) (nI (sB p))) 167 (aC A 3) (nI (sQ p))) 164 3 (nI (aC A 3 + 1)) → Q (some (.int (nI (aC A 3)))) sX := by
            intro t1 tX sX F1 hN h15 h16 FX eF eL eE1 eE2 hsX
            have J2 : JR t1 A := J1.fr F1
            have gF : qF sX = qF t1 := by rw [hsX]; exact eF
            have gL : qL sX = qL t1 := by rw [hsX]; exact eL
            have gE : ∀ c, c ≠ 164 → c ≠ 166 → c ≠ 167 → qE sX c = qE tX c := fun c a1 a2 a3 => by rw [hsX, qE_uEc a1, qE_uEc a3, qE_uEc a2]
            have g164 : ∀ k, k ≠ 3 → qE sX 164 k = qE t1 164 k := fun k hk => by rw [hsX, qE_uEk hk, qE_uEc (by decide), qE_uEc (by decide), eE1 164 (by decide)]
            have g166 : ∀ k, k ≠ aC A 3 → qE sX 166 k = qE t1 166 k := fun k hk => by rw [hsX, qE_uEc (by decide), qE_uEc (by decide), qE_uEk hk, eE1 166 (by decide)]
            have g167 : ∀ k, k ≠ aC A 3 → qE sX 167 k = qE t1 167 k := fun k hk => by rw [hsX, qE_uEc (by decide), qE_uEk hk, qE_uEc (by decide), eE1 167 (by decide)]
            have F : qfr 163 202 t1 sX := by rw [hsX]; exact ((FX.uE (by omega)).uE (by omega)).uE (by omega)
            refine hk sX ⟨fun k hk2 => ?_, fun h => ?_, ?_, fun t ht => ?_, fun x hx => ?_, ?_⟩ (((qfr.rf s).uF (by omega)).trans (F1.1.trans F))
            · show qE sX 164 k = nI (updN (aC A) 3 (aC A 3 + 1) k)
              by_cases e : k = 3
              · subst e; rw [updN_s, hsX, qE_uEs]
              · rw [updN_n e, g164 k e]; exact J2.1 k hk2
            · exact (J2.2.1 h).cg (by rw [gE 165 (by decide) (by decide) (by decide), eE1 165 (by decide)])
            · rw [gF]; exact J2.2.2.1
            · have ht' : t < updN (aC A) 3 (aC A 3 + 1) 3 := ht
              rw [updN_s] at ht'
              show rTD sX t (updN (aT A) (aC A 3) _ t)
              by_cases e : t = aC A 3
              · rw [e, updN_s]
                have cp : ∀ c, 168 ≤ c → c ≤ 172 → ∀ n, n < sB p → qE sX c (100 * aC A 3 + n) = qE t1 (c + 5) n := fun c a1 a2 n hn => by
                  rw [gE c (by omega) (by omega) (by omega), eE2 c a1 a2, if_pos (by omega), Nat.add_sub_cancel_left]
                refine ⟨⟨?_, hK0, by show sB p ≤ 100; omega, htr, fun n hn => ?_⟩, ?_⟩
                · show qE sX 166 (aC A 3) = nI (sB p)
                  rw [hsX, qE_uEc (by decide), qE_uEc (by decide), qE_uEs]
                · have hn' : n < sB p := hn
                  obtain ⟨a1, a2, a3, a4⟩ := hN n hn'
                  exact ⟨(cp 168 (by decide) (by decide) n hn').trans a1, fun k => ⟨(cp 169 (by decide) (by decide) n hn').trans (a2 k).1, (cp 170 (by decide) (by decide) n hn').trans (a2 k).2⟩, fun _ => (cp 171 (by decide) (by decide) n hn').trans a3, fun k => (cp 172 (by decide) (by decide) n hn').trans (a4 k)⟩
                · show qE sX 167 (aC A 3) = nI (sQ p)
                  rw [hsX, qE_uEc (by decide), qE_uEs]
              · rw [updN_n e]
                refine rTD_pt (J2.2.2.2.1 t (by omega)) (g166 t e) (g167 t e) (fun c a1 a2 n hn => ?_)
                rw [gE c (by omega) (by omega) (by omega), eE2 c a1 a2, if_neg (by omega)]
            · exact (J2.2.2.2.2.1 x hx).cg (fun c hc => by rw [gE c (by omega) (by omega) (by omega), eE1 c (by omega)]) (by rw [gL])
            · have n1 := J2.2.2.2.2.2
              unfold rneu at n1 ⊢
              rw [gF]; exact n1
          refine qP.of (L := [_, _, _, _, _, _]) (by omega) (hP _ rfl) ms_Model_tree rfl ?_
          show qW X PR (d - 1) (some .int) cd_Model_tree 0 _ _ _ _
          have copy : ∀ (t1 : QST), rfr (uF s 163 0 0) t1 → ndr t1 (sB p) (sU p) → qF t1 163 15 = nI (sB p) → qF t1 163 16 = nI (sQ p) → ∀ (L2 L3 : Int32) (c n : Nat) (tX : QST), n + c = sB p → qfr 163 202 t1 tX → qF tX = qF t1 → qL tX = qL t1 → (∀ c, ¬ (168 ≤ c ∧ c ≤ 172) → qE tX c = qE t1 c) → (∀ c, 168 ≤ c → c ≤ 172 → ∀ j, qE tX c j = if 100 * aC A 3 ≤ j ∧ j < 100 * aC A 3 + n then qE t1 (c + 5) (j - 100 * aC A 3) else qE t1 c j) → qW X PR (d - 1) (some .int) cd_Model_tree 9 [some (.ref (163)), some (.int (nI l)), some (.int (L2)), some (.int (L3)), some (.int (nI (aC A 3))), some (.int (nI n))] [] tX Q := by
            intro t1 F1 hN h15 h16 L2 L3 c
            induction c with
            | zero =>
              intro n tX hn FX eF eL eE1 eE2
              have e : n = sB p := by omega
              subst e
              have J2 : JR t1 A := J1.fr F1
              have g3 : qE (uE (uE tX 166 (aC A 3) (nI (sB p))) 167 (aC A 3) (nI (sQ p))) 164 3 = nI (aC A 3) := by rw [qE_uEc (by decide), qE_uEc (by decide), eE1 164 (by decide)]; exact J2.1 3 (by decide)
              have g15 : qF tX 163 15 = nI (sB p) := by rw [eF]; exact h15
              have g16 : qF tX 163 16 = nI (sQ p) := by rw [eF]; exact h16
              refine qW.blk rfl ?_
              refine qv_iload rfl ?_
              refine qv_aload rfl ?_
              refine qv_gi ly_163 ⟨rfl, rfl, rfl⟩ (g15) ?_
              refine qv_icmp_geNt rfl rfl (by omega) (by omega) (by omega) (tgt := 11) rfl ?_
              refine qW.blk rfl ?_
              refine qv_aload rfl ?_
              refine qv_gr ly_163 ⟨rfl, rfl, rfl⟩ (by omega) ?_
              refine qv_iload rfl ?_
              refine qv_aload rfl ?_
              refine qv_gi ly_163 ⟨rfl, rfl, rfl⟩ (g15) ?_
              refine qv_is ly_166 rfl (by omega) (by decide) ?_
              refine qv_aload rfl ?_
              refine qv_gr ly_163 ⟨rfl, rfl, rfl⟩ (by omega) ?_
              refine qv_iload rfl ?_
              refine qv_aload rfl ?_
              refine qv_gi ly_163 ⟨rfl, rfl, rfl⟩ (g16) ?_
              refine qv_is ly_167 rfl (by omega) (by decide) ?_
              refine qv_aload rfl ?_
              refine qv_gr ly_163 ⟨rfl, rfl, rfl⟩ (by omega) ?_
              refine qv_iconst (v := 3) rfl ?_
              refine qv_dup2 rfl rfl ?_
              refine qv_ia (j := 3) ly_164 rfl (by omega) (by decide) (g3) ?_
              refine qv_iconst (v := 1) rfl ?_
              refine qv_iaddN (q := 1) rfl rfl ?_
              refine qv_is (j := 3) ly_164 rfl (by omega) (by decide) ?_
              refine qv_iload rfl ?_
              refine qv_iret (rfl) ?_
              exact fin t1 tX _ F1 hN h15 h16 FX eF eL eE1 eE2 rfl
            | succ c ih =>
              intro n tX hn FX eF eL eE1 eE2
              have hnK : n < sB p := by omega
              have g15 : qF tX 163 15 = nI (sB p) := by rw [eF]; exact h15
              refine qW.blk rfl ?_
              refine qv_iload rfl ?_
              refine qv_aload rfl ?_
              refine qv_gi ly_163 ⟨rfl, rfl, rfl⟩ (g15) ?_
              refine qv_icmp_geNf rfl rfl (by omega) (by omega) (by omega) (nx := 10) rfl ?_
              refine qW.blk rfl ?_
              refine qv_aload rfl ?_
              refine qv_gr ly_163 ⟨rfl, rfl, rfl⟩ (by omega) ?_
              refine qv_iconst (v := 100) rfl ?_
              refine qv_iload rfl ?_
              refine qv_imulN (p := 100) rfl rfl ?_
              refine qv_iload rfl ?_
              refine qv_iaddN rfl rfl ?_
              refine qv_aload rfl ?_
              refine qv_gr ly_163 ⟨rfl, rfl, rfl⟩ (by omega) ?_
              refine qv_iload rfl ?_
              refine qv_ia ly_173 rfl (by omega) (by decide) (rfl) ?_
              refine qv_is ly_168 rfl (by omega) (by decide) ?_
              refine qv_aload rfl ?_
              refine qv_gr ly_163 ⟨rfl, rfl, rfl⟩ (by omega) ?_
              refine qv_iconst (v := 100) rfl ?_
              refine qv_iload rfl ?_
              refine qv_imulN (p := 100) rfl rfl ?_
              refine qv_iload rfl ?_
              refine qv_iaddN rfl rfl ?_
              refine qv_aload rfl ?_
              refine qv_gr ly_163 ⟨rfl, rfl, rfl⟩ (by omega) ?_
              refine qv_iload rfl ?_
              refine qv_ia ly_174 rfl (by omega) (by decide) (rfl) ?_
              refine qv_is ly_169 rfl (by omega) (by decide) ?_
              refine qv_aload rfl ?_
              refine qv_gr ly_163 ⟨rfl, rfl, rfl⟩ (by omega) ?_
              refine qv_iconst (v := 100) rfl ?_
              refine qv_iload rfl ?_
              refine qv_imulN (p := 100) rfl rfl ?_
              refine qv_iload rfl ?_
              refine qv_iaddN rfl rfl ?_
              refine qv_aload rfl ?_
              refine qv_gr ly_163 ⟨rfl, rfl, rfl⟩ (by omega) ?_
              refine qv_iload rfl ?_
              refine qv_ia ly_175 rfl (by omega) (by decide) (rfl) ?_
              refine qv_is ly_170 rfl (by omega) (by decide) ?_
              refine qv_aload rfl ?_
              refine qv_gr ly_163 ⟨rfl, rfl, rfl⟩ (by omega) ?_
              refine qv_iconst (v := 100) rfl ?_
              refine qv_iload rfl ?_
              refine qv_imulN (p := 100) rfl rfl ?_
              refine qv_iload rfl ?_
              refine qv_iaddN rfl rfl ?_
              refine qv_aload rfl ?_
              refine qv_gr ly_163 ⟨rfl, rfl, rfl⟩ (by omega) ?_
              refine qv_iload rfl ?_
              refine qv_ia ly_176 rfl (by omega) (by decide) (rfl) ?_
              refine qv_is ly_171 rfl (by omega) (by decide) ?_
              refine qv_aload rfl ?_
              refine qv_gr ly_163 ⟨rfl, rfl, rfl⟩ (by omega) ?_
              refine qv_iconst (v := 100) rfl ?_
              refine qv_iload rfl ?_
              refine qv_imulN (p := 100) rfl rfl ?_
              refine qv_iload rfl ?_
              refine qv_iaddN rfl rfl ?_
              refine qv_aload rfl ?_
              refine qv_gr ly_163 ⟨rfl, rfl, rfl⟩ (by omega) ?_
              refine qv_iload rfl ?_
              refine qv_ia ly_177 rfl (by omega) (by decide) (rfl) ?_
              refine qv_is ly_172 rfl (by omega) (by decide) ?_
              refine qv_iinc (L' := [_, _, _, _, _, _]) rfl (nI_succ _).symm rfl ?_
              refine qv_goto (tgt := 9) rfl ?_
              refine ih (n + 1) _ (by omega) (((((FX.uE (by omega)).uE (by omega)).uE (by omega)).uE (by omega)).uE (by omega)) (by rw [qF_uE, qF_uE, qF_uE, qF_uE, qF_uE]; exact eF) (by rw [qL_uE, qL_uE, qL_uE, qL_uE, qL_uE]; exact eL) (fun c hc => by rw [qE_uEc (by omega), qE_uEc (by omega), qE_uEc (by omega), qE_uEc (by omega), qE_uEc (by omega)]; exact eE1 c hc) (fun c a1 a2 j => ?_)
              have hv : ∀ c', 173 ≤ c' → c' ≤ 177 → qE tX c' n = qE t1 c' n := fun c' b1 b2 => by rw [eE1 c' (by omega)]
              have w1 : qE tX 173 n = qE t1 173 n := hv 173 (by decide) (by decide)
              rcases (show c = 168 ∨ c = 169 ∨ c = 170 ∨ c = 171 ∨ c = 172 by omega) with h | h | h | h | h
              all_goals subst h
              · rw [qE_uEc (by decide), qE_uEc (by decide), qE_uEc (by decide), qE_uEc (by decide), qE_uE]
                by_cases ej : j = 100 * aC A 3 + n
                · rw [if_pos ⟨rfl, ej⟩, if_pos (by omega), ej, Nat.add_sub_cancel_left]; exact hv 173 (by decide) (by decide)
                · rw [if_neg (fun q => ej q.2), eE2 168 (by decide) (by decide) j]
                  by_cases q : 100 * aC A 3 ≤ j ∧ j < 100 * aC A 3 + n
                  · rw [if_pos q, if_pos (by omega)]
                  · rw [if_neg q, if_neg (by omega)]
              · rw [qE_uEc (by decide), qE_uEc (by decide), qE_uEc (by decide), qE_uE]
                by_cases ej : j = 100 * aC A 3 + n
                · rw [if_pos ⟨rfl, ej⟩, if_pos (by omega), ej, Nat.add_sub_cancel_left, qE_uEc (by decide)]; exact hv 174 (by decide) (by decide)
                · rw [if_neg (fun q => ej q.2), qE_uEc (by decide), eE2 169 (by decide) (by decide) j]
                  by_cases q : 100 * aC A 3 ≤ j ∧ j < 100 * aC A 3 + n
                  · rw [if_pos q, if_pos (by omega)]
                  · rw [if_neg q, if_neg (by omega)]
              · rw [qE_uEc (by decide), qE_uEc (by decide), qE_uE]
                by_cases ej : j = 100 * aC A 3 + n
                · rw [if_pos ⟨rfl, ej⟩, if_pos (by omega), ej, Nat.add_sub_cancel_left, qE_uEc (by decide), qE_uEc (by decide)]; exact hv 175 (by decide) (by decide)
                · rw [if_neg (fun q => ej q.2), qE_uEc (by decide), qE_uEc (by decide), eE2 170 (by decide) (by decide) j]
                  by_cases q : 100 * aC A 3 ≤ j ∧ j < 100 * aC A 3 + n
                  · rw [if_pos q, if_pos (by omega)]
                  · rw [if_neg q, if_neg (by omega)]
              · rw [qE_uEc (by decide), qE_uE]
                by_cases ej : j = 100 * aC A 3 + n
                · rw [if_pos ⟨rfl, ej⟩, if_pos (by omega), ej, Nat.add_sub_cancel_left, qE_uEc (by decide), qE_uEc (by decide), qE_uEc (by decide)]; exact hv 176 (by decide) (by decide)
                · rw [if_neg (fun q => ej q.2), qE_uEc (by decide), qE_uEc (by decide), qE_uEc (by decide), eE2 171 (by decide) (by decide) j]
                  by_cases q : 100 * aC A 3 ≤ j ∧ j < 100 * aC A 3 + n
                  · rw [if_pos q, if_pos (by omega)]
                  · rw [if_neg q, if_neg (by omega)]
              · rw [qE_uE]
                by_cases ej : j = 100 * aC A 3 + n
                · rw [if_pos ⟨rfl, ej⟩, if_pos (by omega), ej, Nat.add_sub_cancel_left, qE_uEc (by decide), qE_uEc (by decide), qE_uEc (by decide), qE_uEc (by decide)]; exact hv 177 (by decide) (by decide)
                · rw [if_neg (fun q => ej q.2), qE_uEc (by decide), qE_uEc (by decide), qE_uEc (by decide), qE_uEc (by decide), eE2 172 (by decide) (by decide) j]
                  by_cases q : 100 * aC A 3 ≤ j ∧ j < 100 * aC A 3 + n
                  · rw [if_pos q, if_pos (by omega)]
                  · rw [if_neg q, if_neg (by omega)]
          refine qW.blk rfl ?_
          refine qv_aload rfl ?_
          refine qv_iconst (v := 0) rfl ?_
          refine qv_pi ly_163 ⟨rfl, rfl, rfl⟩ (rfl) ?_
          refine qv_iload rfl ?_
          refine qv_iconst (v := 0) rfl ?_
          refine qv_iconst (v := 7) rfl ?_
          refine qv_staticE sg_Model_in rfl (r_Model_in hP (by omega) (nI l) (nI 0) (nI 7) _) ?_
          refine qv_if_ne_t (bI_ne.mpr (il)) (tgt := 2) rfl ?_
          refine qW.blk rfl ?_
          refine qv_aload rfl ?_
          refine qv_gr ly_163 ⟨rfl, rfl, rfl⟩ (by omega) ?_
          refine qv_iconst (v := 3) rfl ?_
          refine qv_ia (j := 3) ly_164 rfl (by omega) (by decide) (J1.1 3 (by decide)) ?_
          refine qv_iconst (v := 12) rfl ?_
          refine qv_icmp_neNt (q := 12) rfl rfl (by omega) (by omega) (by omega) (tgt := 4) rfl ?_
          refine qW.blk rfl ?_
          refine qv_aload rfl ?_
          refine qv_iload rfl ?_
          refine qv_virt (ly_163.rcv _) sg_Model_lacks rfl rfl (w_M_lacks hP (by omega) hl8 c1 s1 (fun _ => c3) s2 ?_) 
          refine qv_istore (L' := [_, _, _, _, _, _]) rfl ?_
          refine qv_iload rfl ?_
          refine qv_if_ge_t (by rw [hr0]; decide) (tgt := 6) rfl ?_
          refine qW.blk rfl ?_
          refine qv_aload rfl ?_
          refine qv_iload rfl ?_
          refine qv_virt (ly_163.rcv _) sg_Model_faultOf rfl rfl (w_M_faultOf hP (by omega) hl8 s3 hn1 hn7 c4 (J1.1 0 (by decide)) (hBr _ J1) (fun t1 F1 q1 => ?_)) 
          refine qv_istore (L' := [_, _, _, _, _, _]) rfl ?_
          refine qv_iload rfl ?_
          refine qv_if_lt_t (by rw [hv]; decide) (tgt := 8) rfl ?_
          refine qW.blk rfl ?_
          refine qv_aload rfl ?_
          refine qv_gr ly_163 ⟨rfl, rfl, rfl⟩ (by omega) ?_
          refine qv_iconst (v := 3) rfl ?_
          refine qv_ia (j := 3) ly_164 rfl (by omega) (by decide) ((J1.fr F1).1 3 (by decide)) ?_
          refine qv_istore (L' := [_, _, _, _, _, _]) rfl ?_
          refine qv_iconst (v := 0) rfl ?_
          refine qv_istore (L' := [_, _, _, _, _, _]) rfl ?_
          refine qv_nil (nx := 9) rfl ?_
          obtain ⟨q2, q3, q4⟩ := q1 hgood
          rw [← hp] at q2 q3 q4
          rw [hSC] at q2 q4
          exact copy t1 F1 q4 q2 q3 _ _ _ 0 t1 (Nat.zero_add _) (qfr.rf t1) rfl rfl (fun _ _ => rfl) (fun c _ _ j => by rw [if_neg (by omega)])
      · -- a fault
        have hv2 : ftv B (aS A l).2.2.1 (aC A 0) = nI (sA (pp B (aS A l).2.2.1 (aC A 0) 6 p00).2) := by
          unfold ftv at hv ⊢
          by_cases q : (pp B (aS A l).2.2.1 (aC A 0) 6 p00).1 = 1 ∧ sA (pp B (aS A l).2.2.1 (aC A 0) 6 p00).2 = (aS A l).2.2.1
          · rw [if_pos q] at hv; exact absurd rfl hv
          · rw [if_neg q]
        refine ⟨.int (-100 - ftv B (aS A l).2.2.1 (aC A 0)), A, hA, ?_, ?_⟩
        · intro s Q hJ hk
          obtain ⟨c1, c2, -⟩ := hJ.2.2.2.2 l hl8
          obtain ⟨c3, c4, c5⟩ := c2 h2
          refine qP.of (L := [_, _, _, _, _, _]) (by omega) (hP _ rfl) ms_Desk_tree rfl ?_
          show qW X PR (d - 1) (some .int) cd_Desk_tree 0 _ _ _ _
          refine qW.blk rfl ?_
          refine qv_aload rfl ?_
          refine qv_iload rfl ?_
          refine qv_virtE (ly_8.rcv _) sg_Desk_shelfAt rfl rfl (r_shelfAt_y hP (by omega) hl8) ?_
          refine qv_astore (L' := [_, _, _, _, _, _]) rfl ?_
          refine qv_aload rfl ?_
          refine qv_nonnull_t (tgt := 2) rfl ?_
          refine qW.blk rfl ?_
          refine qv_aload rfl ?_
          refine qv_gr ly_8 ⟨rfl, rfl, rfl⟩ (by omega) ?_
          refine qv_gi ly_9 ⟨rfl, rfl, rfl⟩ (hJ.1.2.2.2.1) ?_
          refine qv_iconst (v := 12) rfl ?_
          refine qv_icmp_ltNt (q := 12) rfl rfl (by omega) (by omega) (by omega) (tgt := 4) rfl ?_
          refine qW.blk rfl ?_
          refine qv_aload rfl ?_
          refine qv_iconst (v := 3) rfl ?_
          refine qv_staticE sg_Desk_refusalOf rfl (r_bytesRefusal hP (by omega) hl8 c1 s1 (fun _ => c3) s2) ?_
          refine qv_istore (L' := [_, _, _, _, _, _]) rfl ?_
          refine qv_iload rfl ?_
          refine qv_if_eq_t (hr) (tgt := 6) rfl ?_
          refine qW.blk rfl ?_
          refine qv_aload rfl ?_
          refine qv_gr ly_8 ⟨rfl, rfl, rfl⟩ (by omega) ?_
          refine qv_aload rfl ?_
          refine qv_gr (ly_sh (d := l) (by omega)) ⟨rfl, rfl, rfl⟩ (by omega) ?_
          refine qv_aload rfl ?_
          refine qv_gi (ly_sh (d := l) (by omega)) ⟨rfl, rfl, rfl⟩ (c4) ?_
          refine qv_aload rfl ?_
          refine qv_gr ly_8 ⟨rfl, rfl, rfl⟩ (by omega) ?_
          refine qv_gi ly_9 ⟨rfl, rfl, rfl⟩ (hJ.1.1) ?_
          refine qv_virt (ly_70.rcv _) sg_Reader_faultOf rfl rfl (w_C_faultOf hP (by omega) (ly_shc hl8) (by omega) s3 hn7 (hBc s hJ) (fun t1 F1 q1 => ?_)) 
          refine qv_istore (L' := [_, _, _, _, _, _]) rfl ?_
          refine qv_iload rfl ?_
          refine qv_iconst (v := (-1)) rfl ?_
          refine qv_icmp_eq_f (hv) (nx := 7) rfl ?_
          refine qW.blk rfl ?_
          refine qv_iconst (v := (-100)) rfl ?_
          refine qv_iload rfl ?_
          refine qv_isub ?_
          refine qv_iret (rfl) ?_
          exact hk t1 ((JC_uX hJ).fr hA F1 (by omega)) (cfr_uX (F1.c (by omega) (by omega)))
        · intro s Q hJ hk
          have J1 := hJ.thr (v := 0)
          obtain ⟨c1, c2, -⟩ := J1.2.2.2.2.1 l hl8
          obtain ⟨c3, c4, c5⟩ := c2 h2
          refine qP.of (L := [_, _, _, _, _, _]) (by omega) (hP _ rfl) ms_Model_tree rfl ?_
          show qW X PR (d - 1) (some .int) cd_Model_tree 0 _ _ _ _
          refine qW.blk rfl ?_
          refine qv_aload rfl ?_
          refine qv_iconst (v := 0) rfl ?_
          refine qv_pi ly_163 ⟨rfl, rfl, rfl⟩ (rfl) ?_
          refine qv_iload rfl ?_
          refine qv_iconst (v := 0) rfl ?_
          refine qv_iconst (v := 7) rfl ?_
          refine qv_staticE sg_Model_in rfl (r_Model_in hP (by omega) (nI l) (nI 0) (nI 7) _) ?_
          refine qv_if_ne_t (bI_ne.mpr (il)) (tgt := 2) rfl ?_
          refine qW.blk rfl ?_
          refine qv_aload rfl ?_
          refine qv_gr ly_163 ⟨rfl, rfl, rfl⟩ (by omega) ?_
          refine qv_iconst (v := 3) rfl ?_
          refine qv_ia (j := 3) ly_164 rfl (by omega) (by decide) (J1.1 3 (by decide)) ?_
          refine qv_iconst (v := 12) rfl ?_
          refine qv_icmp_neNt (q := 12) rfl rfl (by omega) (by omega) (by omega) (tgt := 4) rfl ?_
          refine qW.blk rfl ?_
          refine qv_aload rfl ?_
          refine qv_iload rfl ?_
          refine qv_virt (ly_163.rcv _) sg_Model_lacks rfl rfl (w_M_lacks hP (by omega) hl8 c1 s1 (fun _ => c3) s2 ?_) 
          refine qv_istore (L' := [_, _, _, _, _, _]) rfl ?_
          refine qv_iload rfl ?_
          refine qv_if_ge_t (by rw [hr0]; decide) (tgt := 6) rfl ?_
          refine qW.blk rfl ?_
          refine qv_aload rfl ?_
          refine qv_iload rfl ?_
          refine qv_virt (ly_163.rcv _) sg_Model_faultOf rfl rfl (w_M_faultOf hP (by omega) hl8 s3 hn1 hn7 c4 (J1.1 0 (by decide)) (hBr _ J1) (fun t1 F1 q1 => ?_)) 
          refine qv_istore (L' := [_, _, _, _, _, _]) rfl ?_
          refine qv_iload rfl ?_
          refine qv_if_lt_f (by rw [hv2]; exact nI_lt0 (by omega)) (nx := 7) rfl ?_
          refine qW.blk rfl ?_
          refine qv_iconst (v := (-100)) rfl ?_
          refine qv_iload rfl ?_
          refine qv_isub ?_
          refine qv_iret (rfl) ?_
          exact hk t1 (J1.fr F1) (((qfr.rf s).uF (by omega)).trans F1.1)
    · refine ⟨.int (refB (aS A l).1 (aS A l).2.1), A, hA, ?_, ?_⟩
      · intro s Q hJ hk
        obtain ⟨c1, c2, -⟩ := hJ.2.2.2.2 l hl8
        refine qP.of (L := [_, _, _, _, _, _]) (by omega) (hP _ rfl) ms_Desk_tree rfl ?_
        show qW X PR (d - 1) (some .int) cd_Desk_tree 0 _ _ _ _
        refine qW.blk rfl ?_
        refine qv_aload rfl ?_
        refine qv_iload rfl ?_
        refine qv_virtE (ly_8.rcv _) sg_Desk_shelfAt rfl rfl (r_shelfAt_y hP (by omega) hl8) ?_
        refine qv_astore (L' := [_, _, _, _, _, _]) rfl ?_
        refine qv_aload rfl ?_
        refine qv_nonnull_t (tgt := 2) rfl ?_
        refine qW.blk rfl ?_
        refine qv_aload rfl ?_
        refine qv_gr ly_8 ⟨rfl, rfl, rfl⟩ (by omega) ?_
        refine qv_gi ly_9 ⟨rfl, rfl, rfl⟩ (hJ.1.2.2.2.1) ?_
        refine qv_iconst (v := 12) rfl ?_
        refine qv_icmp_ltNt (q := 12) rfl rfl (by omega) (by omega) (by omega) (tgt := 4) rfl ?_
        refine qW.blk rfl ?_
        refine qv_aload rfl ?_
        refine qv_iconst (v := 3) rfl ?_
        refine qv_staticE sg_Desk_refusalOf rfl (r_bytesRefusal hP (by omega) hl8 c1 s1 (fun z => (c2 z).1) s2) ?_
        refine qv_istore (L' := [_, _, _, _, _, _]) rfl ?_
        refine qv_iload rfl ?_
        refine qv_if_eq_f (hr) (nx := 5) rfl ?_
        refine qW.blk rfl ?_
        refine qv_iload rfl ?_
        refine qv_iret (rfl) ?_
        exact hk s hJ (cfr.rf s)
      · intro s Q hJ hk
        have J1 := hJ.thr (v := 0)
        obtain ⟨c1, c2, -⟩ := J1.2.2.2.2.1 l hl8
        refine qP.of (L := [_, _, _, _, _, _]) (by omega) (hP _ rfl) ms_Model_tree rfl ?_
        show qW X PR (d - 1) (some .int) cd_Model_tree 0 _ _ _ _
        refine qW.blk rfl ?_
        refine qv_aload rfl ?_
        refine qv_iconst (v := 0) rfl ?_
        refine qv_pi ly_163 ⟨rfl, rfl, rfl⟩ (rfl) ?_
        refine qv_iload rfl ?_
        refine qv_iconst (v := 0) rfl ?_
        refine qv_iconst (v := 7) rfl ?_
        refine qv_staticE sg_Model_in rfl (r_Model_in hP (by omega) (nI l) (nI 0) (nI 7) _) ?_
        refine qv_if_ne_t (bI_ne.mpr (il)) (tgt := 2) rfl ?_
        refine qW.blk rfl ?_
        refine qv_aload rfl ?_
        refine qv_gr ly_163 ⟨rfl, rfl, rfl⟩ (by omega) ?_
        refine qv_iconst (v := 3) rfl ?_
        refine qv_ia (j := 3) ly_164 rfl (by omega) (by decide) (J1.1 3 (by decide)) ?_
        refine qv_iconst (v := 12) rfl ?_
        refine qv_icmp_neNt (q := 12) rfl rfl (by omega) (by omega) (by omega) (tgt := 4) rfl ?_
        refine qW.blk rfl ?_
        refine qv_aload rfl ?_
        refine qv_iload rfl ?_
        refine qv_virt (ly_163.rcv _) sg_Model_lacks rfl rfl (w_M_lacks hP (by omega) hl8 c1 s1 (fun z => (c2 z).1) s2 ?_) 
        refine qv_istore (L' := [_, _, _, _, _, _]) rfl ?_
        refine qv_iload rfl ?_
        refine qv_if_ge_f (refB_neg hr) (nx := 5) rfl ?_
        refine qW.blk rfl ?_
        refine qv_iload rfl ?_
        refine qv_iret (rfl) ?_
        exact hk (uF s 163 0 0) J1 ((qfr.rf s).uF (by omega))
  · refine ⟨.int (-1), A, hA, ?_, ?_⟩
    · intro s Q hJ hk
      refine qP.of (L := [_, _, _, _, _, _]) (by omega) (hP _ rfl) ms_Desk_tree rfl ?_
      show qW X PR (d - 1) (some .int) cd_Desk_tree 0 _ _ _ _
      refine qW.blk rfl ?_
      refine qv_aload rfl ?_
      refine qv_iload rfl ?_
      refine qv_virtE (ly_8.rcv _) sg_Desk_shelfAt rfl rfl (r_shelfAt_n hP (by omega) hnb) ?_
      refine qv_astoreN (L' := [_, _, _, _, _, _]) rfl ?_
      refine qv_aloadN rfl ?_
      refine qv_nonnull_f (nx := 1) rfl ?_
      refine qW.blk rfl ?_
      refine qv_iconst (v := (-1)) rfl ?_
      refine qv_iret (rfl) ?_
      exact hk s hJ (cfr.rf s)
    · intro s Q hJ hk
      have J1 := hJ.thr (v := 0)
      refine qP.of (L := [_, _, _, _, _, _]) (by omega) (hP _ rfl) ms_Model_tree rfl ?_
      show qW X PR (d - 1) (some .int) cd_Model_tree 0 _ _ _ _
      refine qW.blk rfl ?_
      refine qv_aload rfl ?_
      refine qv_iconst (v := 0) rfl ?_
      refine qv_pi ly_163 ⟨rfl, rfl, rfl⟩ (rfl) ?_
      refine qv_iload rfl ?_
      refine qv_iconst (v := 0) rfl ?_
      refine qv_iconst (v := 7) rfl ?_
      refine qv_staticE sg_Model_in rfl (r_Model_in hP (by omega) b 0 (nI 7) _) ?_
      refine qv_if_ne_f (fun zq => zq (bI_f (not7 hnb))) (nx := 1) rfl ?_
      refine qW.blk rfl ?_
      refine qv_iconst (v := (-1)) rfl ?_
      refine qv_iret (rfl) ?_
      exact hk (uF s 163 0 0) J1 ((qfr.rf s).uF (by omega))
end
