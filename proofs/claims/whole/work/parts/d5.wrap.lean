/-! the law's element: what it answers, its contract -/
noncomputable def elF (S : pm_S) (v i : Int32) : Option pm_T := @ite _ (∃ s, S = qhp s) (Classical.propDecidable _) (@ite _ (∃ k, k < 8 ∧ v = nI k) (Classical.propDecidable _)
  (if fI S (123 + 5 * v.toNatClampNeg) 0 = 0 ∨ fI S (123 + 5 * v.toNatClampNeg) 0 = 1 then some (some (.int 2), exH S 12) else
    @ite _ (fI S (123 + 5 * v.toNatClampNeg) 0 = 2 ∧ ∃ n, n ≤ 120 ∧ fI S (123 + 5 * v.toNatClampNeg) 2 = nI n) (Classical.propDecidable _)
      (if 0 ≤ i ∧ i ≤ fI S (123 + 5 * v.toNatClampNeg) 2 - 1 then some (some (.int 0), pm_put S 203 (.inl (1, 1, .inr (.inl (vp_updL (lA S 203) 0 (iA S (123 + 5 * v.toNatClampNeg + 4) i.toNatClampNeg).toInt64))))) else some (some (.int 2), exH S 12)) none)
  (some (some (.int 1), exH S 11))) none
noncomputable def gel (as : List Value) (S : pm_S) : Option pm_T := match as with
  | [.ref 8, .int v, .int i, .ref 203] => elF S v i
  | _ => none
theorem gel_cases {v i : Int32} {S : pm_S} {t : pm_T} (h : gel [.ref 8, .int v, .int i, .ref 203] S = some t) : ∃ s, S = qhp s ∧ (((¬ ∃ k, k < 8 ∧ v = nI k) ∧ t = (some (.int 1), exH S 11)) ∨ ∃ k, k < 8 ∧ v = nI k ∧ ((∃ h, (h = 0 ∨ h = 1) ∧ qF s (123 + 5 * k) 0 = nI h ∧ t = (some (.int 2), exH S 12)) ∨ (qF s (123 + 5 * k) 0 = nI 2 ∧ ∃ n, n ≤ 120 ∧ qF s (123 + 5 * k) 2 = nI n ∧
    (((¬ (0 ≤ i ∧ i ≤ qF s (123 + 5 * k) 2 - 1)) ∧ t = (some (.int 2), exH S 12)) ∨ ∃ j, j < n ∧ i = nI j ∧ t = (some (.int 0), qhp (uL s 203 0 (qE s (123 + 5 * k + 4) j).toInt64)))))) := by
  have h' : elF S v i = some t := h
  unfold elF at h'
  split at h'
  · rename_i hs
    obtain ⟨s, rfl⟩ := hs
    refine ⟨s, rfl, ?_⟩
    split at h'
    · rename_i hk
      obtain ⟨k, hk, rfl⟩ := hk
      refine Or.inr ⟨k, hk, rfl, ?_⟩
      rw [show (nI k).toNatClampNeg = k from nI_clamp (by omega)] at h'
      rw [fI_q (ly_sh hk) rfl, fI_q (ly_sh hk) rfl] at h'
      split at h'
      · rename_i h1; cases h'
        rcases h1 with h1 | h1
        · exact Or.inl ⟨0, Or.inl rfl, h1, rfl⟩
        · exact Or.inl ⟨1, Or.inr rfl, h1, rfl⟩
      · split at h'
        · rename_i h1
          obtain ⟨h1, n, hn, hs⟩ := h1
          refine Or.inr ⟨h1, n, hn, hs, ?_⟩
          split at h'
          · rename_i hw
            cases h'
            rw [hs] at hw
            obtain ⟨j, hj, rfl⟩ := (in_nI1 (by omega)).mp hw
            refine Or.inr ⟨j, hj, rfl, ?_⟩
            rw [nI_clamp (by omega), iA_q (ly_shc hk), lA_q ly_203, qhp_uL ly_203]
          · rename_i hw
            cases h'
            exact Or.inl ⟨hw, rfl⟩
        · cases h'
    · rename_i hk
      cases h'
      exact Or.inl ⟨hk, rfl⟩
  · cases h'
theorem qhp_uL_le {s : QST} {x : Int64} : pm_le (qhp s) (qhp (uL s 203 0 x)) := by
  rw [← qhp_uL ly_203]
  exact ⟨by show _ ≤ (List.set _ _ _).length; rw [List.length_set]; exact Nat.le_refl _, Nat.le_refl _⟩
theorem gel_le {v i : Int32} {S : pm_S} {t : pm_T} (h : gel [.ref 8, .int v, .int i, .ref 203] S = some t) : pm_le S t.2 := by
  obtain ⟨s, rfl, ⟨-, rfl⟩ | ⟨k, -, -, ⟨_, -, -, rfl⟩ | ⟨-, n, -, -, ⟨-, rfl⟩ | ⟨j, -, -, rfl⟩⟩⟩⟩ := gel_cases h
  · exact exH_le
  · exact exH_le
  · exact exH_le
  · exact qhp_uL_le
theorem wrap_b0 : pm_bk bp_wrap "QuestionDeskLaw" false pm_Ms cp_wrap 0 0 [.aload 3, .iconst 0, .aload 0, .iload 1, .iload 2] [0, 0, 0, 0, 0] = true := by decide +kernel
section
variable {X : pm_X} {d : Nat} {s : QST}
theorem wrap_run2 {L : List (Option Value)} {x : Int64} : qW X PR0 d (some .int) cp_wrap 2 L [.long x, .int 0, .ref 203] s (fun r s' => r = some (.int 0) ∧ s' = uL s 203 0 x) := by
  refine qW.blk rfl ?_
  refine qv_ls ly_203 (show (0 : Int32) = nI 0 from rfl) (by decide) (by decide) ?_
  refine qv_goto (tgt := 7) rfl ?_
  refine qW.blk rfl ?_
  refine qv_iconst (v := 0) rfl ?_
  exact qv_iret rfl ⟨rfl, rfl⟩
theorem wrap_run4 {L : List (Option Value)} : qW X PR0 d (some .int) cp_wrap 4 L [] s (fun r s' => r = some (.int 1) ∧ s' = s) := by
  refine qW.blk rfl ?_
  refine qv_iconst (v := 1) rfl ?_
  exact qv_iret rfl ⟨rfl, rfl⟩
theorem wrap_run6 {L : List (Option Value)} : qW X PR0 d (some .int) cp_wrap 6 L [] s (fun r s' => r = some (.int 2) ∧ s' = s) := by
  refine qW.blk rfl ?_
  refine qv_iconst (v := 2) rfl ?_
  exact qv_iret rfl ⟨rfl, rfl⟩
end
section
variable {l : Launch} {sa : Nat → Nat} {base : Nat} {dC : Nat → ClassId} {dI : Nat → Nat → Nat} {dA : Nat → ClassId} {X : pm_X}
theorem wrap_met (hl : l.stackTraces = false) {v i : Int32} {S : pm_S} {t : pm_T} (hg : gel [.ref 8, .int v, .int i, .ref 203] S = some t) {d : Nat} (hd : 10 ≤ d) : Met l yp_wrap (Cond.codeWith yp_wrap bp_wrap 5 (some .int) [(0, 9, 12, 13), (0, 9, 16, 15)] :: pm_tbl) (pm_rm (d + 1) (t.2.1.length - S.1.length) (t.2.2 - S.2)) (pm_Pc2 sa base dC dI dA X [.ref 8, .int v, .int i, .ref 203] S) (fun _ => pm_Post sa base dC dI dA t) (t.2.1.length - S.1.length) (t.2.2 - S.2) (fun q : Nat => base ≤ q) := by
  have hle : pm_le S t.2 := gel_le hg
  have hle1 := hle.1
  have hle2 := hle.2
  refine va_MetW (cc := bp_wrap) (maxL := 5) (ret := some .int) (hh := [(0, 9, 12, 13), (0, 9, 16, 15)]) (by decide +kernel) rfl ?_
  intro p e s m args below meth c s₁ B hml hPc
  obtain ⟨⟨rfl, hK, hP, hsz⟩, hK2⟩ := hPc
  have hx := B.exec
  have hb := B.bytes
  have hr := B.returns
  have hts := atoms_spec (ws := Cond.codeWith yp_wrap bp_wrap 5 (some .int) [(0, 9, 12, 13), (0, 9, 16, 15)] :: pm_tbl) B.pre
  have hts2 : ∀ w ∈ pm_tbl, w.before (([Value.ref 8, .int v, .int i, .ref 203]).map (pm_cv (pm_ad sa base))).toArray s = true := fun w hw => hts w (List.mem_cons_of_mem _ hw)
  have htab : c.exceptionTable.toList = tableOf [(0, 9, 12, 13), (0, 9, 16, 15)] := vx_table (x := yp_wrap) B (hts _ List.mem_cons_self)
  have hown : s.vm.findClass "QuestionDeskLaw" = some m.cls := findClass_of_methodNamed B.named
  have hlocks := B.notSynchronized
  have C : pm_C p (pm_rm (d + 1) (t.2.1.length - S.1.length) (t.2.2 - S.2)) s m (([Value.ref 8, .int v, .int i, .ref 203]).map (pm_cv (pm_ad sa base))).toArray meth c bp_wrap 5 "QuestionDeskLaw" sa base dC dI dA X S.1.length S.2 t.2.1.length t.2.2 :=
    ⟨hx, hb, hml, hown, hts2, hlocks, hK, by show _ ≤ S.1.length + (t.2.1.length - S.1.length); omega, by show _ ≤ S.2 + (t.2.2 - S.2); omega, by show 1 ≤ d + 1; omega, by show 64 ≤ 64 * (d + 1); omega⟩
  obtain ⟨hlen, hLR⟩ := pm_ent_LR (ad := pm_ad sa base) (n := 5) (as := [Value.ref 8, .int v, .int i, .ref 203]) (L := [some (.ref 8), some (.int v), some (.int i), some (.ref 203), none]) rfl
  rw [lg_entry_eq]
  generalize hargs : (([Value.ref 8, .int v, .int i, .ref 203]).map (pm_cv (pm_ad sa base))).toArray = args9 at *
  have walk : ∀ (F b : Nat) (f : pm_F), pm_go X pm_Ms (pm_run X pm_Ms PR0 d) (some .int) cp_wrap F b f = some t → ∀ q, cp_wrap[b]? = some q → ∀ (H : Heap) (locs : List Loc) (ls : Array Slot) (cells slots : Nat), pm_R sa base dC dI dA s 5 S.1.length S.2 f H locs ls cells slots → W p l e (pm_rm (d + 1) (t.2.1.length - S.1.length) (t.2.2 - S.2)) s m args9 below meth c H locs cells slots (MQ below (fun _ => pm_Post sa base dC dI dA t) args9 s (t.2.1.length - S.1.length) (t.2.2 - S.2) (fun q : Nat => base ≤ q)) (F0 m q.1 ls (f.2.1.map (pm_cv (pm_ad sa base)))) := by
    refine pm_go_ok1 (sp := sp_wrap) (na := true) (d := d) (ini := false) C (fun h => by cases h) (by show d + 1 ≤ d + 1; omega) (by show 64 * (d + 1) ≤ 64 * (d + 1); omega) (run0_mono d) (fun mid mm as S t hm h => (run0_CB hm h).one) ?_ kp_wrap ?_ (Nat.le_refl _) (Nat.le_refl _)
    · intro i pc f H locs ls cells slots hir hna hdg hR
      obtain ⟨r1, r2, r3, r4, r5, r6⟩ := hR
      have key : t.2 = f.2.2 → cells = t.2.1.length - S.1.length ∧ slots = t.2.2 - S.2 := fun h => by rw [h]; constructor <;> omega
      have post : ∀ v : Option Value, t = (v, f.2.2) → ∀ u : State, u.heap = H → s.WarmedH u.vm → pm_Post sa base dC dI dA t s (.returned (v.map (pm_cv (pm_ad sa base)))) u := by
        intro v ht u hu _
        subst ht
        exact ⟨rfl, by rw [hu]; exact r2, by rw [hu]; exact r3, r4.F hu⟩
      rcases hir with ⟨rfl, x, e1, e2, e3⟩ | ⟨rfl, x, e1, e2, e3⟩ | ⟨rfl, v, e1, e2, e3, e4⟩ | ⟨rfl, e1, e2, e3⟩
      · obtain ⟨k1, k2⟩ := key (by rw [e3])
        rw [e1, ← k1, ← k2]
        exact W.zret hx hb (ty := .int) hr (pm_fit_ok (ad := id) (show pm_fit .int (.int x) = true from e2)).1 (post _ e3) r4.2.2 hdg
      · cases e2
      · exact absurd rfl (hna rfl)
      · cases e2
    · intro b q f o hq hsp hex
      have hb2 : b = 1 := by simpa [sp_wrap] using hsp
      subst hb2
      cases hq
      cases hex
  have hR0 : pm_R sa base dC dI dA s 5 S.1.length S.2 ([some (.ref 8), some (.int v), some (.int i), some (.ref 203), none], [], S) s.heap [] ((lg_sl (([Value.ref 8, .int v, .int i, .ref 203]).map (pm_cv (pm_ad sa base))) ++ List.replicate (5 - (lg_sl (([Value.ref 8, .int v, .int i, .ref 203]).map (pm_cv (pm_ad sa base)))).length) Slot.unset).toArray) 0 0 := ⟨hLR, hP, hsz, va_S.rf, rfl, rfl⟩
  have e8 : pm_cv (pm_ad sa base) (.ref 8) = .ref base := by show Value.ref _ = _; rw [pm_ad_hi (by omega)]; rfl
  have e203 : pm_cv (pm_ad sa base) (.ref 203) = .ref (base + 195) := by show Value.ref _ = _; rw [pm_ad_hi (by omega)]
  -- up to the call
  refine pm_ex_ok1 (M := pm_Ms) (code := cp_wrap) (b := 0) (na := false) (d := d) (ini := false) (tf := (some (.ref 0), S)) (cf := pm_run X pm_Ms PR0 d) (ret := some .int) C (fun h => by cases h) (by show d + 1 ≤ d + 1; omega) (by show 64 * (d + 1) ≤ 64 * (d + 1); omega) (run0_mono d) (fun mid mm as S t hm h => (run0_CB hm h).one) ?_ [.aload 3, .iconst 0, .aload 0, .iload 1, .iload 2] [0, 0, 0, 0, 0] 0 ([some (.ref 8), some (.int v), some (.int i), some (.ref 203), none], [], S) (.inl (1, ([some (.ref 8), some (.int v), some (.int i), some (.ref 203), none], [.int i, .int v, .ref 8, .int 0, .ref 203], S))) (fun h => by cases h) wrap_b0 rfl hle1 hle2 ?_ (fun t ht => by cases ht) s.heap [] _ 0 0 hR0
  · intro i pc f H locs ls cells slots hir hna hdg hR
    rcases hir with ⟨rfl, x, e1, e2, e3⟩ | ⟨rfl, x, e1, e2, e3⟩ | ⟨rfl, v, e1, e2, e3, e4⟩ | ⟨rfl, e1, e2, e3⟩
    · cases e3
    · cases e3
    · have z : some (Value.ref 0) = some v := congrArg Prod.fst e4
      cases z; cases e3
    · cases e3
  intro b' f' e q hq H locs ls cells slots hR
  cases e
  cases hq
  obtain ⟨sq, rfl, hc⟩ := gel_cases hg
  have hrv : pm_h (qhp sq) 8 (.inr (9, qfs sq 8 0 _)) := ly_8.o sq
  -- where it throws
  have thrown : ∀ (E : String) (ci n : Nat) (pcH : Nat) (r : Int32) (b : Nat), ((n = 1 ∧ E = nIA ∧ ci = 11) ∨ (n = 2 ∧ E = nIS ∧ ci = 12) ∨ (n = 3 ∧ E = nIS ∧ ci = 12)) → (∃ F, pm_go X pm_Ms (pm_run X pm_Ms PR0 (d - 1)) (some (.object "x")) cp_elem F 0 ([some (.ref 8), some (.int v), some (.int i), none], [], qhp sq) = some (some (.ref n), qhp sq)) → t = (some (.int r), exH (qhp sq) ci) →
      (∀ (ce : Cell) (q9 : Addr) (H1 : Heap) (locs1 : List Loc), H1[q9]? = some ce → ce.vm = .none → s.vm.findClass E = some ce.cls → W p l e (pm_rm (d + 1) (t.2.1.length - (qhp sq).1.length) (t.2.2 - (qhp sq).2)) s m args9 below meth c H1 locs1 (cells + 1) (slots + 6) (MQ below (fun _ => pm_Post sa base dC dI dA t) args9 s (t.2.1.length - (qhp sq).1.length) (t.2.2 - (qhp sq).2) (fun q : Nat => base ≤ q)) (F0 m pcH ls [.ref q9]) → vx_W p l e (pm_rm (d + 1) (t.2.1.length - (qhp sq).1.length) (t.2.2 - (qhp sq).2)) s m args9 below meth c H1 locs1 (cells + 1) (slots + 6) (MQ below (fun _ => pm_Post sa base dC dI dA t) args9 s (t.2.1.length - (qhp sq).1.length) (t.2.2 - (qhp sq).2) (fun q : Nat => base ≤ q)) (F0 m 5 ls [.int 0, .ref (base + 195)]) q9) →
      decode bp_wrap pcH = .ok (.astore 4, 2) → (∃ ops, cp_wrap[b]? = some (pcH + 2, ops)) → (∀ (L1 : List (Option Value)), ∃ F, pm_go X pm_Ms (pm_run X pm_Ms PR0 d) (some .int) cp_wrap F b (L1, [], exH (qhp sq) ci) = some t) →
      W p l e (pm_rm (d + 1) (t.2.1.length - (qhp sq).1.length) (t.2.2 - (qhp sq).2)) s m args9 below meth c H locs cells slots (MQ below (fun _ => pm_Post sa base dC dI dA t) args9 s (t.2.1.length - (qhp sq).1.length) (t.2.2 - (qhp sq).2) (fun q : Nat => base ≤ q)) (F0 m 5 ls [.int i, .int v, .ref base, .int 0, .ref (base + 195)]) := by
    intro E ci n pcH r b hE hth ht hcatch hdst hblk hrun
    obtain ⟨r1, r2, r3, r4, r5, r6⟩ := hR
    dsimp only at r2 r3 r5 r6
    have hS0 : CallFix p m c bp_wrap 5 s args9 pm_tbl "QuestionDeskLaw" := ⟨hx, hb, hml, hown, hts2⟩
    have hat := pm_W_at (ad := pm_ad sa base) (base := base) (dA := dA) hrv.2
    have hrecv := va_recv hK.1 r2 (ci := 9) rfl hat
    have hnm : t.2.1.length - (qhp sq).1.length = 1 := by rw [ht]; simp [exH]
    have hns : t.2.2 - (qhp sq).2 = 6 := by rw [ht]; show (qhp sq).2 + 6 - (qhp sq).2 = 6; omega
    have hth2 := el_thr (sa := sa) (base := base) (dC := dC) (dI := dI) (dA := dA) (X := X) (l := l) (d := d - 1) hl (by omega) hE hth
    rw [show d - 1 + 1 = d by omega] at hth2
    have hrun9 := vx_runV (l := l) (e := e) (R := pm_rm (d + 1) (t.2.1.length - (qhp sq).1.length) (t.2.2 - (qhp sq).2)) (below := below) (meth := meth) (H := H) (locs := locs) (cells := cells) (slots := slots) (As := [.int v, .int i]) (g := F0 m 5 ls [.int i, .int v, .ref base, .int 0, .ref (base + 195)]) (rest := [.int 0, .ref (base + 195)]) hS0 hth2 (cwV 2 hts2 (gd_V (idx := 7) wp_elem_link wp_elem_in wp_elem_sel wp_elem_ini wp_elem_code) rfl rfl rfl ⟨rfl, by decide, by decide, by decide +kernel⟩ ⟨by show d + 1 ≤ d + 1; omega, by show 8 + (4 + 11) + 64 * d ≤ 64 * (d + 1); omega⟩) ⟨pm_blind2, hrecv, fun U hU hW => ⟨⟨by show _ = (([Value.ref 8, .int v, .int i]).map (pm_cv (pm_ad sa base))).toArray; rw [List.map_cons, e8]; rfl, hK.to r4 hU hW, by rw [hU]; exact r2, by rw [hU]; exact r3⟩, hK2.to r4 hU hW⟩⟩ rfl rfl r1.2.1 rfl (lv_room (by show (1 : Nat) + (1 + 0) ≤ 8; decide)) (show decode bp_wrap 5 = .ok (.invokevirtual 7, 3) by decide +kernel) ⟨by show cells + 1 ≤ t.2.1.length - (qhp sq).1.length; omega, by show slots + 6 ≤ t.2.2 - (qhp sq).2; omega⟩
    refine run_thr hrun9 (fun _ _ _ z => z) (fun _ _ _ z => z.2.2.2) r4 ?_
    intro E' ce q9 st t1 locs1 hXC hS1 hce hvm hcl
    obtain ⟨rfl, x2, x3, x4⟩ := hXC
    refine hcatch ce q9 t1.heap locs1 hce hvm hcl ?_
    refine lv_astore hx hb hdst r1.has (by decide) rfl (fun ls1 hl1 => ?_)
    have hLR2 := LR_set r1 (fun j v hj hv => by
      have : j = 3 := by omega
      subst this
      cases hv
      show (1 : Nat) ≠ 2
      decide) hl1
    obtain ⟨ops, hblk⟩ := hblk
    obtain ⟨F, hF⟩ := hrun _
    exact walk F b _ hF _ hblk t1.heap locs1 ls1 (cells + 1) (slots + 6) ⟨hLR2, x2, by rw [x3]; show _ = base + (((qhp sq).1 ++ [(.inr (ci, []) : va_E)]).length); rw [List.length_append]; rfl, hS1, by show (qhp sq).1.length + (cells + 1) = ((qhp sq).1 ++ [(.inr (ci, []) : va_E)]).length; rw [List.length_append]; show _ = _ + 1; omega, by show (qhp sq).2 + (slots + 6) = (qhp sq).2 + 6; omega⟩
  have goalE : ∀ {P : Value → Value → Prop}, P (.ref base) (.ref (base + 195)) → P (pm_cv (pm_ad sa base) (.ref 8)) (pm_cv (pm_ad sa base) (.ref 203)) := fun h => by rw [e8, e203]; exact h
  refine goalE (P := fun a b => W p l e (pm_rm (d + 1) (t.2.1.length - (qhp sq).1.length) (t.2.2 - (qhp sq).2)) s m args9 below meth c H locs cells slots (MQ below (fun _ => pm_Post sa base dC dI dA t) args9 s (t.2.1.length - (qhp sq).1.length) (t.2.2 - (qhp sq).2) (fun q : Nat => base ≤ q)) (F0 m 5 ls [.int i, .int v, a, .int 0, b])) ?_
  have catchA : ∀ (ce : Cell) (q9 : Addr) (H1 : Heap) (locs1 : List Loc), H1[q9]? = some ce → ce.vm = .none → s.vm.findClass nIA = some ce.cls → W p l e (pm_rm (d + 1) (t.2.1.length - (qhp sq).1.length) (t.2.2 - (qhp sq).2)) s m args9 below meth c H1 locs1 (cells + 1) (slots + 6) (MQ below (fun _ => pm_Post sa base dC dI dA t) args9 s (t.2.1.length - (qhp sq).1.length) (t.2.2 - (qhp sq).2) (fun q : Nat => base ≤ q)) (F0 m 12 ls [.ref q9]) → vx_W p l e (pm_rm (d + 1) (t.2.1.length - (qhp sq).1.length) (t.2.2 - (qhp sq).2)) s m args9 below meth c H1 locs1 (cells + 1) (slots + 6) (MQ below (fun _ => pm_Post sa base dC dI dA t) args9 s (t.2.1.length - (qhp sq).1.length) (t.2.2 - (qhp sq).2) (fun q : Nat => base ≤ q)) (F0 m 5 ls [.int 0, .ref (base + 195)]) q9 := fun ce q9 H1 locs1 hce hvm hcl kk =>
    vx_catch hown [] ⟨0, 9, 12, 13⟩ [⟨0, 9, 16, 15⟩] (by rw [htab]; rfl) (fun z hz => by cases hz) (by decide) (by decide) (hts2 _ wp_l5) (va_tabs rfl rfl (hK2.2.2.2.2.1 (.castable nIA nIA) (by simp [wx_B]))) hce hvm hcl kk
  have catchS : ∀ (ce : Cell) (q9 : Addr) (H1 : Heap) (locs1 : List Loc), H1[q9]? = some ce → ce.vm = .none → s.vm.findClass nIS = some ce.cls → W p l e (pm_rm (d + 1) (t.2.1.length - (qhp sq).1.length) (t.2.2 - (qhp sq).2)) s m args9 below meth c H1 locs1 (cells + 1) (slots + 6) (MQ below (fun _ => pm_Post sa base dC dI dA t) args9 s (t.2.1.length - (qhp sq).1.length) (t.2.2 - (qhp sq).2) (fun q : Nat => base ≤ q)) (F0 m 16 ls [.ref q9]) → vx_W p l e (pm_rm (d + 1) (t.2.1.length - (qhp sq).1.length) (t.2.2 - (qhp sq).2)) s m args9 below meth c H1 locs1 (cells + 1) (slots + 6) (MQ below (fun _ => pm_Post sa base dC dI dA t) args9 s (t.2.1.length - (qhp sq).1.length) (t.2.2 - (qhp sq).2) (fun q : Nat => base ≤ q)) (F0 m 5 ls [.int 0, .ref (base + 195)]) q9 := fun ce q9 H1 locs1 hce hvm hcl kk =>
    vx_catch hown [⟨0, 9, 12, 13⟩] ⟨0, 9, 16, 15⟩ [] (by rw [htab]; rfl) (fun z hz => by
      have := List.mem_singleton.mp hz
      subst this
      exact Or.inr ⟨by decide, _, hts2 _ wp_l5, hK2.2.2.2.1⟩) (by decide) (by decide) (hts2 _ wp_l6) (va_tabs rfl rfl (hK2.2.2.2.2.1 (.castable nIS nIS) (by simp [wx_B]))) hce hvm hcl kk
  rcases hc with ⟨hn, rfl⟩ | ⟨k, hk, rfl, ⟨h, hh, h0, rfl⟩ | ⟨h0, n, hn, hs, ⟨hw, rfl⟩ | ⟨j, hj, rfl, rfl⟩⟩⟩
  · exact thrown nIA 11 1 12 _ 4 (Or.inl ⟨rfl, rfl, rfl⟩) (el_runN (by omega) hn).to rfl catchA (by decide +kernel) ⟨_, rfl⟩ (fun L1 => by rw [← qhp_ex]; exact wrap_run4.to)
  · exact thrown nIS 12 2 16 _ 6 (Or.inr (Or.inl ⟨rfl, rfl, rfl⟩)) (el_runR (by omega) hk h0 (by omega) (by rcases hh with rfl | rfl <;> decide)).to rfl catchS (by decide +kernel) ⟨_, rfl⟩ (fun L1 => by rw [← qhp_ex]; exact wrap_run6.to)
  · exact thrown nIS 12 3 16 _ 6 (Or.inr (Or.inr ⟨rfl, rfl, rfl⟩)) (el_runP (by omega) hk h0 hw).to rfl catchS (by decide +kernel) ⟨_, rfl⟩ (fun L1 => by rw [← qhp_ex]; exact wrap_run6.to)
  · have hCB := el_CB (l := l) (sa := sa) (base := base) (dC := dC) (dI := dI) (dA := dA) (X := X) (d := d - 1) (el_runG (X := X) (d := d - 1) (s := sq) (by omega) hk h0 hn hs hj).to
    rw [show d - 1 + 1 = d by omega] at hCB
    have hrcv : pm_rcv X (qhp sq).1 9 [.ref 8, .int (nI k), .int (nI j)] = true := by
      show (match pm_get X (qhp sq).1 8 with | some (.inr (c, _)) => c == 9 | _ => false) = true
      rw [hrv.get]; rfl
    have hrun := hCB p e _ s m args9 below meth c bp_wrap 5 "QuestionDeskLaw" _ _ _ _ 5 7 _ [some (.ref 8), some (.int (nI k)), some (.int (nI j)), some (.ref 203), none] [.int 0, .ref 203] H locs ls cells slots C (by show d + 1 ≤ d + 1; omega) (by show 64 * (d + 1) ≤ 64 * (d + 1); omega) hR (by decide) pm_le_rf hle1 hle2 (by decide +kernel) (Or.inr (Or.inl ⟨rfl, by decide, by decide, hrcv, rfl⟩)) (Or.inl wp_elem_link)
    have := pm_s_call (Q := MQ below (fun _ => pm_Post sa base dC dI dA (some (.int 0), qhp (uL sq 203 0 (qE sq (123 + 5 * k + 4) j).toInt64))) args9 s ((qhp (uL sq 203 0 (qE sq (123 + 5 * k + 4) j).toInt64)).1.length - (qhp sq).1.length) ((qhp (uL sq 203 0 (qE sq (123 + 5 * k + 4) j).toInt64)).2 - (qhp sq).2) (fun q : Nat => base ≤ q)) hrun hR pm_le_rf (fun H1 locs1 ls1 cells1 slots1 hR1 => by
      obtain ⟨v9, s9, ⟨F, hF⟩, rfl, rfl⟩ := wrap_run2 (X := X) (d := d) (s := sq) (L := [some (.ref 8), some (.int (nI k)), some (.int (nI j)), some (.ref 203), none]) (x := (qE sq (123 + 5 * k + 4) j).toInt64)
      exact walk F 2 _ hF (8, _) rfl H1 locs1 ls1 cells1 slots1 hR1)
    rw [← e203, ← e8]
    exact this
end
