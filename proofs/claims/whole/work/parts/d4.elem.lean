/-! element: what it throws, where it returns -/
def iA (S : pm_S) (c j : Nat) : Int32 := match S.1[c - 8]? with
  | some (.inl (_, _, .inl g)) => g j
  | _ => 0
def lA (S : pm_S) (c : Nat) : Nat → Int64 := match S.1[c - 8]? with
  | some (.inl (_, _, .inr (.inl g))) => g
  | _ => fun _ => 0
theorem iA_q {s : QST} {c n j : Nat} {ts : List Nat} (h : qLY c (0, n, ts)) : iA (qhp s) c j = qE s c j := by
  unfold iA; rw [(h.a s).2]
theorem lA_q {s : QST} {c n : Nat} {ts : List Nat} (h : qLY c (4, n, ts)) : lA (qhp s) c = qL s c := by
  unfold lA; rw [(h.l s).2]
section
variable {X : pm_X} {d : Nat} {s : QST}
theorem el_runN (hd : 2 ≤ d) {v i : Int32} (hn : ¬ ∃ m, m < 8 ∧ v = nI m) : qW X PR0 d (some (.object "x")) cp_elem 0 [some (.ref 8), some (.int v), some (.int i), none] [] s (fun r s' => r = some (.ref 1) ∧ s' = s) := by
  refine qW.blk rfl ?_
  refine qv_aload rfl ?_
  refine qv_iload rfl ?_
  refine qv_virtE (ly_8.rcv _) sg_Desk_shelfAt rfl rfl (r_shelfAt_n PR0_np hd hn) ?_
  refine qv_astoreN (L' := [_, _, _, _]) rfl ?_
  refine qv_aloadN rfl ?_
  refine qv_nonnull_f (nx := 1) rfl ?_
  refine qW.blk rfl ?_
  refine qv_gets ?_
  exact qv_aret ⟨rfl, rfl⟩ ⟨rfl, rfl⟩
theorem el_runR (hd : 4 ≤ d) {k h : Nat} (hk : k < 8) {i : Int32} (h0 : qF s (123 + 5 * k) 0 = nI h) (hh : h ≤ 2) (hr : refU h 2 ≠ 0) : qW X PR0 d (some (.object "x")) cp_elem 0 [some (.ref 8), some (.int (nI k)), some (.int i), none] [] s (fun r s' => r = some (.ref 2) ∧ s' = s) := by
  refine qW.blk rfl ?_
  refine qv_aload rfl ?_
  refine qv_iload rfl ?_
  refine qv_virtE (ly_8.rcv _) sg_Desk_shelfAt rfl rfl (r_shelfAt_y PR0_np (by omega) hk) ?_
  refine qv_astore (L' := [_, _, _, _]) rfl ?_
  refine qv_aload rfl ?_
  refine qv_nonnull_t (tgt := 2) rfl ?_
  refine qW.blk rfl ?_
  refine qv_aload rfl ?_
  refine qv_iconst (v := 2) rfl ?_
  refine qv_staticE sg_Desk_refusalOf rfl (r_rowRefusal PR0_np (by omega) hk h0 hh) ?_
  refine qv_if_eq_f hr (nx := 3) rfl ?_
  refine qW.blk rfl ?_
  refine qv_gets ?_
  exact qv_aret ⟨rfl, rfl⟩ ⟨rfl, rfl⟩
theorem el_runP (hd : 4 ≤ d) {k : Nat} (hk : k < 8) {i : Int32} (h0 : qF s (123 + 5 * k) 0 = nI 2) (hw : ¬ (0 ≤ i ∧ i ≤ qF s (123 + 5 * k) 2 - 1)) : qW X PR0 d (some (.object "x")) cp_elem 0 [some (.ref 8), some (.int (nI k)), some (.int i), none] [] s (fun r s' => r = some (.ref 3) ∧ s' = s) := by
  refine qW.blk rfl ?_
  refine qv_aload rfl ?_
  refine qv_iload rfl ?_
  refine qv_virtE (ly_8.rcv _) sg_Desk_shelfAt rfl rfl (r_shelfAt_y PR0_np (by omega) hk) ?_
  refine qv_astore (L' := [_, _, _, _]) rfl ?_
  refine qv_aload rfl ?_
  refine qv_nonnull_t (tgt := 2) rfl ?_
  refine qW.blk rfl ?_
  refine qv_aload rfl ?_
  refine qv_iconst (v := 2) rfl ?_
  refine qv_staticE sg_Desk_refusalOf rfl (r_rowRefusal PR0_np (by omega) hk h0 (by decide)) ?_
  refine qv_if_eq_t rfl (tgt := 4) rfl ?_
  refine qW.blk rfl ?_
  refine qv_iload rfl ?_
  refine qv_iconst (v := 0) rfl ?_
  refine qv_aload rfl ?_
  refine qv_gi (ly_sh hk) ⟨rfl, rfl, rfl⟩ rfl ?_
  refine qv_iconst (v := 1) rfl ?_
  refine qv_isub ?_
  refine qv_staticE sg_Desk_within rfl (r_Desk_within PR0_np (by omega) i 0 _ _) ?_
  refine qv_if_ne_f (fun z => hw (bI_ne.mp z)) (nx := 5) rfl ?_
  refine qW.blk rfl ?_
  refine qv_gets ?_
  exact qv_aret ⟨rfl, rfl⟩ ⟨rfl, rfl⟩
theorem el_runG (hd : 4 ≤ d) {k j n : Nat} (hk : k < 8) (h0 : qF s (123 + 5 * k) 0 = nI 2) (hn : n ≤ 120) (hs : qF s (123 + 5 * k) 2 = nI n) (hj : j < n) : qW X PR0 d (some .long) cpr_elem 0 [some (.ref 8), some (.int (nI k)), some (.int (nI j)), none] [] s (fun r s' => r = some (.long (qE s (123 + 5 * k + 4) j).toInt64) ∧ s' = s) := by
  refine qW.blk rfl ?_
  refine qv_aload rfl ?_
  refine qv_iload rfl ?_
  refine qv_virtE (ly_8.rcv _) sg_Desk_shelfAt rfl rfl (r_shelfAt_y PR0_np (by omega) hk) ?_
  refine qv_astore (L' := [_, _, _, _]) rfl ?_
  refine qv_aload rfl ?_
  refine qv_nonnull_t (tgt := 2) rfl ?_
  refine qW.blk rfl ?_
  refine qv_aload rfl ?_
  refine qv_iconst (v := 2) rfl ?_
  refine qv_staticE sg_Desk_refusalOf rfl (r_rowRefusal PR0_np (by omega) hk h0 (by decide)) ?_
  refine qv_if_eq_t rfl (tgt := 4) rfl ?_
  refine qW.blk rfl ?_
  refine qv_iload rfl ?_
  refine qv_iconst (v := 0) rfl ?_
  refine qv_aload rfl ?_
  refine qv_gi (ly_sh hk) ⟨rfl, rfl, rfl⟩ hs ?_
  refine qv_iconst (v := 1) rfl ?_
  refine qv_isub ?_
  refine qv_staticE sg_Desk_within rfl (r_Desk_within PR0_np (by omega) (nI j) 0 (nI n - 1) _) ?_
  refine qv_if_ne_t (bI_ne.mpr ((in_nI1 (by omega)).mpr ⟨j, hj, rfl⟩)) (tgt := 6) rfl ?_
  refine qW.blk rfl ?_
  refine qv_aload rfl ?_
  refine qv_gr (ly_sh hk) ⟨rfl, rfl, rfl⟩ (by omega) ?_
  refine qv_iload rfl ?_
  refine qv_ia (ly_shc hk) rfl (by omega) (by decide) rfl ?_
  refine qv_i2l ?_
  exact qv_lret rfl ⟨rfl, rfl⟩
end
section
variable {l : Launch} {sa : Nat → Nat} {base : Nat} {dC : Nat → ClassId} {dI : Nat → Nat → Nat} {dA : Nat → ClassId} {X : pm_X}
theorem el_CB {S : pm_S} {v i : Int32} {x : Int64} {d : Nat} (h : ∃ F, pm_go X pm_Ms (pm_run X pm_Ms PR0 d) (some .long) cpr_elem F 0 ([some (.ref 8), some (.int v), some (.int i), none], [], S) = some (some (.long x), S)) : pm_CB l sa base dC dI dA X (d + 1) md_elemr [.ref 8, .int v, .int i] S (some (.long x), S) := by
  obtain ⟨F, hF⟩ := h
  exact pm_CB_of ck_elemr.1 (pm_met ck_elemr.1 ck_elemr.2 (run0_mono d) (fun mid mm as S t hm h => run0_CB hm h) rfl hF)
theorem el_thr (hl : l.stackTraces = false) {S : pm_S} {v i : Int32} {n ci : Nat} {E : String} {d : Nat} (hd : 8 ≤ d) (hE : (n = 1 ∧ E = nIA ∧ ci = 11) ∨ (n = 2 ∧ E = nIS ∧ ci = 12) ∨ (n = 3 ∧ E = nIS ∧ ci = 12)) (h : ∃ F, pm_go X pm_Ms (pm_run X pm_Ms PR0 d) (some (.object "x")) cp_elem F 0 ([some (.ref 8), some (.int v), some (.int i), none], [], S) = some (some (.ref n), S)) : vx_Met l yp_elem (Cond.code yp_elem bp_elem 4 (some .long) :: pm_tbl) (pm_rm (d + 1) 1 6) (pm_Pc2 sa base dC dI dA X [.ref 8, .int v, .int i] S) (fun _ _ _ _ => False) (pm_XC sa base dC dI dA S E ci) 1 6 (fun q : Nat => base ≤ q) := by
  obtain ⟨F, hF⟩ := h
  refine vx_ofW (cc := bp_elem) (maxL := 4) (ret := some .long) (by decide +kernel) rfl ?_
  intro p e s m args below meth c s₁ B hml hnt hPc
  obtain ⟨⟨rfl, hK, hP, hsz⟩, hK2⟩ := hPc
  have hx := B.exec
  have hb := B.bytes
  have hts := atoms_spec (ws := Cond.code yp_elem bp_elem 4 (some .long) :: pm_tbl) B.pre
  have hts2 : ∀ w ∈ pm_tbl, w.before (([Value.ref 8, .int v, .int i]).map (pm_cv (pm_ad sa base))).toArray s = true := fun w hw => hts w (List.mem_cons_of_mem _ hw)
  have hown : s.vm.findClass "QuestionDesk" = some m.cls := findClass_of_methodNamed B.named
  have hlocks := B.notSynchronized
  have C : pm_C p (pm_rm (d + 1) 1 6) s m (([Value.ref 8, .int v, .int i]).map (pm_cv (pm_ad sa base))).toArray meth c bp_elem 4 "QuestionDesk" sa base dC dI dA X S.1.length S.2 S.1.length S.2 :=
    ⟨hx, hb, hml, hown, hts2, hlocks, hK, by omega, by omega, by show 1 ≤ d + 1; omega, by show 64 ≤ 64 * (d + 1); omega⟩
  obtain ⟨hlen, hLR⟩ := pm_ent_LR (ad := pm_ad sa base) (n := 4) (as := [Value.ref 8, .int v, .int i]) (L := [some (.ref 8), some (.int v), some (.int i), none]) rfl
  rw [lg_entry_eq]
  generalize hargs : (([Value.ref 8, .int v, .int i]).map (pm_cv (pm_ad sa base))).toArray = args9 at *
  refine pm_go_ok1 (sp := sp_elem) (na := true) (d := d) (ini := false) (tf := (some (.ref n), S)) C (fun h => by cases h) (by show d + 1 ≤ d + 1; omega) (by show 64 * (d + 1) ≤ 64 * (d + 1); omega) (run0_mono d) (fun mid mm as S t hm h => (run0_CB hm h).one) ?_ kp_elem ?_ (Nat.le_refl _) (Nat.le_refl _) F 0 _ hF (0, _) rfl s.heap [] _ 0 0 ⟨hLR, hP, hsz, va_S.rf, rfl, rfl⟩
  · intro i pc f H locs ls cells slots hir hna hdg hR
    rcases hir with ⟨rfl, x, e1, e2, e3⟩ | ⟨rfl, x, e1, e2, e3⟩ | ⟨rfl, v, e1, e2, e3, e4⟩ | ⟨rfl, e1, e2, e3⟩
    · cases e3
    · cases e3
    · exact absurd rfl (hna rfl)
    · cases e3
  · intro b q f o hq hsp hex
    have hb2 : b = 1 ∨ b = 3 ∨ b = 5 := by simpa [sp_elem, or_assoc] using hsp
    have exq : ∀ (n : Nat) (f : pm_F) (o : pm_O), pm_ex X pm_Ms (pm_run X pm_Ms PR0 d) (some (.object "x")) b [.getstatic n, .areturn] f = some o → f.2.1 = [] ∧ o = .inr (some (.ref n), f.2.2) := by
      intro n f o h
      obtain ⟨L, st, S1⟩ := f
      cases st with
      | nil => cases h; exact ⟨rfl, rfl⟩
      | cons v st => cases h
    have fin : ∀ (is sa9 ik ic : Nat) (tx : String) (pc : Nat) (H : Heap) (locs : List Loc) (ls : Array Slot) (cells slots : Nat) (L : List (Option Value)), (∃ r : vw_C, pm_cl[ci]? = some (E, TX0, 0)) → Cond.classLink "QuestionDesk" ik E ∈ pm_tbl → Cond.initialized E ∈ pm_tbl → Bundle.fit E = true → vk_R "QuestionDesk" is tx sa9 s → (∀ w ∈ vx_atS "QuestionDesk" ic E np_ex, w.before args9 s = true) → (∀ w ∈ vx_atS "QuestionDesk" ic E np_ex, vx_ot w = true) → decode bp_elem pc = .ok (.new ik, 3) → decode bp_elem (pc + 3) = .ok (.dup, 1) → decode bp_elem (pc + 4) = .ok (.ldc_w is, 3) → decode bp_elem (pc + 7) = .ok (.invokespecial ic, 3) → decode bp_elem (pc + 10) = .ok (.athrow, 1) → pm_R sa base dC dI dA s 4 S.1.length S.2 (L, [], S) H locs ls cells slots → W p l e (pm_rm (d + 1) 1 6) s m args9 below meth c H locs cells slots (vx_MQ below (fun _ _ _ _ => False) (pm_XC sa base dC dI dA S E ci) args9 s 1 6 (fun q : Nat => base ≤ q)) (F0 m pc ls []) := by
      intro is sa9 ik ic tx pc H locs ls cells slots L hcl h1 h2 h3 h4 h5 h6 d0 d3 d4 d7 d10 hR
      obtain ⟨-, hcl⟩ := hcl
      obtain ⟨r1, r2, r3, r4, r5, r6⟩ := hR
      dsimp only at r2 r3 r5 r6
      have hc0 : cells = 0 := by omega
      have hs0 : slots = 0 := by omega
      subst hc0; subst hs0
      have hsize : ls.size = c.maxLocals := by rw [hml]; exact r1.2.1
      refine vz_makeSW hx hb hl hown (ci := ci) (names := np_ex) (cls := E) h3 np_fit (hts2 _ h1) (hts2 _ h2) h4 h5 (gd_of h6) hK2.1 hK2.2.1 r4 hsize d0 d3 d4 d7 hK.1 r2 (T0 := TX0) hcl (by show 2 + 3 < d + 1; omega) (by show 0 + (13 * (2 + 1) + 43) ≤ 64 * (d + 1); omega) (by show 0 + 1 ≤ 1; omega) (by show 0 + 6 ≤ 6; omega) ?_
      intro H1 g1 g2 g3
      have hP1 := g2
      rw [show (pm_W (pm_ad sa base) base dA S.1 ++ [(H.size, .inr (ci, []))]) = pm_W (pm_ad sa base) base dA (S.1 ++ [.inr (ci, [])]) by rw [r3]; exact pm_W_push (e := .inr (ci, []))] at hP1
      obtain ⟨r', hr', ce, hce, hcl2, hvm, -⟩ := g2 S.1.length (H.size, .inr (ci, [])) (by rw [List.getElem?_append_right (by rw [pm_W_len]; exact Nat.le_refl _), pm_W_len, Nat.sub_self]; rfl)
      have hfc := (hK.1.1 ci _ hcl).2.1
      exact vx_athrow hx hb d10 (vx_out (fun x hx => (hnt x hx).elim) hlocks hce hvm (by rw [hcl2]; exact hfc) (fun t ht hA => ⟨rfl, by rw [ht]; exact hP1, by rw [ht, g1, r3], g3.F ht⟩) g3.2.2 (Nat.le_refl _) (Nat.le_refl _))
    have hK3 := hK2
    obtain ⟨k1, k2, k3, k4, k5, -, -, ⟨a3, k6⟩, ⟨a4, k7⟩, ⟨a5, k8⟩⟩ := hK3
    rcases hb2 with rfl | rfl | rfl
    · cases hq
      obtain ⟨e1, e2⟩ := exq 1 f o hex
      refine ⟨fun g hg => (by rw [e2] at hg; cases hg), fun ho H locs ls cells slots hR => ?_⟩
      rw [e2] at ho
      obtain ⟨L, st, S1⟩ := f
      cases ho
      cases e1
      obtain ⟨rfl, rfl⟩ : E = nIA ∧ ci = 11 := by
        rcases hE with h | h | h
        · exact h.2
        · omega
        · omega
      exact fin 349 a3 347 351 _ 10 H locs ls cells slots L ⟨(RX0, TX0, 6), rfl⟩ wp_l7 wp_ic3 (by decide +kernel) k6 (at_of wp_a3 wp_ga3 hts2 k5) wp_oa3 (by decide +kernel) (by decide +kernel) (by decide +kernel) (by decide +kernel) (by decide +kernel) hR
    · cases hq
      obtain ⟨e1, e2⟩ := exq 2 f o hex
      refine ⟨fun g hg => (by rw [e2] at hg; cases hg), fun ho H locs ls cells slots hR => ?_⟩
      rw [e2] at ho
      obtain ⟨L, st, S1⟩ := f
      cases ho
      cases e1
      obtain ⟨rfl, rfl⟩ : E = nIS ∧ ci = 12 := by
        rcases hE with h | h | h
        · omega
        · exact h.2
        · omega
      exact fin 356 a4 354 358 _ 29 H locs ls cells slots L ⟨(RX0, TX0, 6), rfl⟩ wp_l2 wp_ic2 (by decide +kernel) k7 (at_of wp_a4 wp_ga4 hts2 k5) wp_oa4 (by decide +kernel) (by decide +kernel) (by decide +kernel) (by decide +kernel) (by decide +kernel) hR
    · cases hq
      obtain ⟨e1, e2⟩ := exq 3 f o hex
      refine ⟨fun g hg => (by rw [e2] at hg; cases hg), fun ho H locs ls cells slots hR => ?_⟩
      rw [e2] at ho
      obtain ⟨L, st, S1⟩ := f
      cases ho
      cases e1
      obtain ⟨rfl, rfl⟩ : E = nIS ∧ ci = 12 := by
        rcases hE with h | h | h
        · omega
        · omega
        · exact h.2
      exact fin 359 a5 354 358 _ 54 H locs ls cells slots L ⟨(RX0, TX0, 6), rfl⟩ wp_l2 wp_ic2 (by decide +kernel) k8 (at_of wp_a4 wp_ga4 hts2 k5) wp_oa4 (by decide +kernel) (by decide +kernel) (by decide +kernel) (by decide +kernel) (by decide +kernel) hR
end
