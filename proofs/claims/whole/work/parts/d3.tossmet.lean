/-! toss: its contract -/
theorem toss_al : pm_bk bp_toss "QuestionDesk" false pm_Ms cp_toss 4 28 [.aload 4] [0] = true := by decide +kernel
theorem toss_sp {X : pm_X} {cf : Nat → List Value → pm_S → Option pm_T} {f : pm_F} {o : pm_O} (ret : Option FieldType) (h : pm_ex X pm_Ms cf ret 4 [.aload 4, .areturn] f = some o) : ∃ L v S, f = (L, [], S) ∧ pm_ld L 4 = some v ∧ pm_isA v = true ∧ pm_ret ret v = true ∧ o = .inr (some v, S) := by
  obtain ⟨L, st, S⟩ := f
  rw [pm_ex_def rfl] at h
  simp only [pm_op, pm_load] at h
  cases hl : pm_ld L 4 with
  | none => rw [hl] at h; cases h
  | some v =>
    rw [hl] at h
    simp only at h
    cases hv : pm_isA v with
    | false => rw [hv] at h; simp at h
    | true =>
      rw [hv] at h
      simp only [if_true] at h
      cases st with
      | cons w st => simp [pm_ex] at h
      | nil =>
        simp only [pm_ex] at h
        split at h
        · rename_i hr; cases h; exact ⟨L, v, S, rfl, hl, hv, hr.2, rfl⟩
        · cases h
section
variable {l : Launch} {sa : Nat → Nat} {base : Nat} {dC : Nat → ClassId} {dI : Nat → Nat → Nat} {dA : Nat → ClassId} {X : pm_X}
theorem toss_met (hl : l.stackTraces = false) {v : Int32} {S : pm_S} {t : pm_T} (hg : gtoss [.ref 8, .int v] S = some t) {d : Nat} (hd : 10 ≤ d) : Met l yp_toss (Cond.codeWith yp_toss bp_toss 6 (some .int) [(28, 33, 36, 376), (28, 33, 53, 354)] :: pm_tbl) (pm_rm (d + 1) (t.2.1.length - S.1.length) (t.2.2 - S.2)) (pm_Pc2 sa base dC dI dA X [.ref 8, .int v] S) (fun _ => pm_Post sa base dC dI dA t) (t.2.1.length - S.1.length) (t.2.2 - S.2) (fun q : Nat => base ≤ q) := by
  have hle : pm_le S t.2 := gtoss_le hg
  have hle1 := hle.1
  have hle2 := hle.2
  refine va_MetW (cc := bp_toss) (maxL := 6) (ret := some .int) (hh := [(28, 33, 36, 376), (28, 33, 53, 354)]) (by decide +kernel) rfl ?_
  intro p e s m args below meth c s₁ B hml hPc
  obtain ⟨⟨rfl, hK, hP, hsz⟩, hK2⟩ := hPc
  have hx := B.exec
  have hb := B.bytes
  have hr := B.returns
  have hts := atoms_spec (ws := Cond.codeWith yp_toss bp_toss 6 (some .int) [(28, 33, 36, 376), (28, 33, 53, 354)] :: pm_tbl) B.pre
  have hts2 : ∀ w ∈ pm_tbl, w.before (([Value.ref 8, .int v]).map (pm_cv (pm_ad sa base))).toArray s = true := fun w hw => hts w (List.mem_cons_of_mem _ hw)
  have htab : c.exceptionTable.toList = tableOf [(28, 33, 36, 376), (28, 33, 53, 354)] := vx_table (x := yp_toss) B (hts _ List.mem_cons_self)
  have hown : s.vm.findClass "QuestionDesk" = some m.cls := findClass_of_methodNamed B.named
  have hlocks := B.notSynchronized
  have C : pm_C p (pm_rm (d + 1) (t.2.1.length - S.1.length) (t.2.2 - S.2)) s m (([Value.ref 8, .int v]).map (pm_cv (pm_ad sa base))).toArray meth c bp_toss 6 "QuestionDesk" sa base dC dI dA X S.1.length S.2 t.2.1.length t.2.2 :=
    ⟨hx, hb, hml, hown, hts2, hlocks, hK, by show _ ≤ S.1.length + (t.2.1.length - S.1.length); omega, by show _ ≤ S.2 + (t.2.2 - S.2); omega, by show 1 ≤ d + 1; omega, by show 64 ≤ 64 * (d + 1); omega⟩
  obtain ⟨hlen, hLR⟩ := pm_ent_LR (ad := pm_ad sa base) (n := 6) (as := [Value.ref 8, .int v]) (L := [some (.ref 8), some (.int v), none, none, none, none]) rfl
  rw [lg_entry_eq]
  generalize hargs : (([Value.ref 8, .int v]).map (pm_cv (pm_ad sa base))).toArray = args9 at *
  have walk : ∀ (F b : Nat) (f : pm_F), pm_go X pm_Ms (pm_run X pm_Ms PR0 d) (some .int) cp_toss F b f = some t → ∀ q, cp_toss[b]? = some q → ∀ (H : Heap) (locs : List Loc) (ls : Array Slot) (cells slots : Nat), pm_R sa base dC dI dA s 6 S.1.length S.2 f H locs ls cells slots → W p l e (pm_rm (d + 1) (t.2.1.length - S.1.length) (t.2.2 - S.2)) s m args9 below meth c H locs cells slots (MQ below (fun _ => pm_Post sa base dC dI dA t) args9 s (t.2.1.length - S.1.length) (t.2.2 - S.2) (fun q : Nat => base ≤ q)) (F0 m q.1 ls (f.2.1.map (pm_cv (pm_ad sa base)))) := by
    refine pm_go_ok1 (sp := sp_toss) (na := true) (d := d) (ini := false) C (fun h => by cases h) (by show d + 1 ≤ d + 1; omega) (by show 64 * (d + 1) ≤ 64 * (d + 1); omega) (run0_mono d) (fun mid mm as S t hm h => (run0_CB hm h).one) ?_ kp_toss ?_ (Nat.le_refl _) (Nat.le_refl _)
    · intro i pc f H locs ls cells slots hir hna hdg hR
      obtain ⟨r1, r2, r3, r4, r5, r6⟩ := hR
      have key : t.2 = f.2.2 → cells = t.2.1.length - S.1.length ∧ slots = t.2.2 - S.2 := fun h => by rw [h]; constructor <;> omega
      have post : ∀ v : Option Value, t = (v, f.2.2) → ∀ u : State, u.heap = H → s.WarmedH u.vm → pm_Post sa base dC dI dA t s (.returned (v.map (pm_cv (pm_ad sa base)))) u := by
        intro v ht u hu _
        subst ht
        exact ⟨rfl, by rw [hu]; exact r2, by rw [hu]; exact r3, r4.F hu⟩
      rcases hir with ⟨rfl, x, e1, e2, e3⟩ | ⟨rfl, x, e1, e2, e3⟩ | ⟨rfl, v, e1, e2, e3, e4⟩ | ⟨rfl, e1, e2, e3⟩
      · obtain ⟨k1, k2⟩ := key (by rw [e3])
        rw [e1, ← k1, ← k2]
        exact W.zret hx hb (ty := .int) hr (pm_fit_ok (ad := id) (show pm_fit .int (.int x) = true from e2)).1 (post _ e3) r4.2.2 hdg
      · cases e2
      · exact absurd rfl (hna rfl)
      · cases e2
    · intro b q f o hq hsp hex
      have hb2 : b = 4 := by simpa [sp_toss] using hsp
      subst hb2
      cases hq
      obtain ⟨L, v, S1, -, -, hv, hr9, -⟩ := toss_sp _ hex
      cases v <;> first | (cases hv; done) | (cases hr9; done)
  have hent : F0 m 0 ((lg_sl (([Value.ref 8, .int v]).map (pm_cv (pm_ad sa base))) ++ List.replicate (6 - (lg_sl (([Value.ref 8, .int v]).map (pm_cv (pm_ad sa base)))).length) Slot.unset).toArray) [] = F0 m 0 ((lg_sl (([Value.ref 8, .int v]).map (pm_cv (pm_ad sa base))) ++ List.replicate (6 - (lg_sl (([Value.ref 8, .int v]).map (pm_cv (pm_ad sa base)))).length) Slot.unset).toArray) (([] : List Value).map (pm_cv (pm_ad sa base))) := rfl
  have hR0 : pm_R sa base dC dI dA s 6 S.1.length S.2 ([some (.ref 8), some (.int v), none, none, none, none], [], S) s.heap [] ((lg_sl (([Value.ref 8, .int v]).map (pm_cv (pm_ad sa base))) ++ List.replicate (6 - (lg_sl (([Value.ref 8, .int v]).map (pm_cv (pm_ad sa base)))).length) Slot.unset).toArray) 0 0 := ⟨hLR, hP, hsz, va_S.rf, rfl, rfl⟩
  obtain ⟨sq, rfl, hc⟩ := gtoss_cases hg
  have strt : (∃ F, pm_go X pm_Ms (pm_run X pm_Ms PR0 d) (some .int) cp_toss F 0 ([some (.ref 8), some (.int v), none, none, none, none], [], qhp sq) = some t) → W p l e (pm_rm (d + 1) (t.2.1.length - (qhp sq).1.length) (t.2.2 - (qhp sq).2)) s m args9 below meth c s.heap [] 0 0 (MQ below (fun _ => pm_Post sa base dC dI dA t) args9 s (t.2.1.length - (qhp sq).1.length) (t.2.2 - (qhp sq).2) (fun q : Nat => base ≤ q)) (F0 m 0 ((lg_sl (([Value.ref 8, .int v]).map (pm_cv (pm_ad sa base))) ++ List.replicate (6 - (lg_sl (([Value.ref 8, .int v]).map (pm_cv (pm_ad sa base)))).length) Slot.unset).toArray) []) := fun ⟨F, hF⟩ => walk F 0 _ hF (0, _) rfl s.heap [] _ 0 0 hR0
  rcases hc with ⟨hn, rfl⟩ | ⟨k, hk, rfl, hc⟩
  · exact strt (toss_runN (by omega) hn).to
  rcases hc with ⟨h0, rfl⟩ | ⟨h0, rfl⟩ | ⟨h0, hc⟩
  · exact strt (toss_runR (h := 0) (by omega) hk h0 (by decide) (by decide)).to
  · exact strt (toss_runR (h := 2) (by omega) hk h0 (by decide) (by decide)).to
  obtain ⟨F1, hF1⟩ := (toss_runM (X := X) (d := d) (s := sq) (by omega) hk h0).to
  have hS : pm_h (qhp sq) (123 + 5 * k + 1) (.inr (3, qfs sq (123 + 5 * k + 1) 0 [0, 0, 0, 0, 0, 0, 123 + 5 * k + 1 + 1, 123 + 5 * k + 1 + 2])) := (mb_sh hk).1.o sq
  have hkd : (qfs sq (123 + 5 * k + 1) 0 [0, 0, 0, 0, 0, 0, 123 + 5 * k + 1 + 1, 123 + 5 * k + 1 + 2])[1]? = some (.int (qF sq (123 + 5 * k + 1) 1)) := rfl
  have hvo : (qfs sq (123 + 5 * k + 1) 0 [0, 0, 0, 0, 0, 0, 123 + 5 * k + 1 + 1, 123 + 5 * k + 1 + 2])[2]? = some (.int (qF sq (123 + 5 * k + 1) 2)) := rfl
  generalize qfs sq (123 + 5 * k + 1) 0 [0, 0, 0, 0, 0, 0, 123 + 5 * k + 1 + 1, 123 + 5 * k + 1 + 2] = fs at hS hkd hvo
  have e1 : pm_cv (pm_ad sa base) (.ref (123 + 5 * k + 1)) = .ref (base + (123 + 5 * k + 1 - 8)) := by show Value.ref _ = _; rw [pm_ad_hi (by omega)]
  -- at the call of fail
  have call : (∀ (L : List (Option Value)) (H : Heap) (locs : List Loc) (ls : Array Slot) (cells slots : Nat), pm_ld L 4 = some (.ref (123 + 5 * k + 1)) → pm_R sa base dC dI dA s 6 (qhp sq).1.length (qhp sq).2 (L, [.ref (123 + 5 * k + 1)], qhp sq) H locs ls cells slots → W p l e (pm_rm (d + 1) (t.2.1.length - (qhp sq).1.length) (t.2.2 - (qhp sq).2)) s m args9 below meth c H locs cells slots (MQ below (fun _ => pm_Post sa base dC dI dA t) args9 s (t.2.1.length - (qhp sq).1.length) (t.2.2 - (qhp sq).2) (fun q : Nat => base ≤ q)) (F0 m 30 ls [.ref (base + (123 + 5 * k + 1 - 8))])) → W p l e (pm_rm (d + 1) (t.2.1.length - (qhp sq).1.length) (t.2.2 - (qhp sq).2)) s m args9 below meth c s.heap [] 0 0 (MQ below (fun _ => pm_Post sa base dC dI dA t) args9 s (t.2.1.length - (qhp sq).1.length) (t.2.2 - (qhp sq).2) (fun q : Nat => base ≤ q)) (F0 m 0 ((lg_sl (([Value.ref 8, .int (nI k)]).map (pm_cv (pm_ad sa base))) ++ List.replicate (6 - (lg_sl (([Value.ref 8, .int (nI k)]).map (pm_cv (pm_ad sa base)))).length) Slot.unset).toArray) []) := by
    intro kk
    refine pm_go_ok1 (sp := sp_toss) (na := true) (d := d) (ini := false) (tf := (some (.ref (123 + 5 * k + 1)), qhp sq)) C (fun h => by cases h) (by show d + 1 ≤ d + 1; omega) (by show 64 * (d + 1) ≤ 64 * (d + 1); omega) (run0_mono d) (fun mid mm as S t hm h => (run0_CB hm h).one) ?_ kp_toss ?_ hle1 hle2 F1 0 _ hF1 (0, _) rfl s.heap [] _ 0 0 hR0
    · intro i pc f H locs ls cells slots hir hna hdg hR
      rcases hir with ⟨rfl, x, e1, e2, e3⟩ | ⟨rfl, x, e1, e2, e3⟩ | ⟨rfl, v, e1, e2, e3, e4⟩ | ⟨rfl, e1, e2, e3⟩
      · cases e3
      · cases e3
      · exact absurd rfl (hna rfl)
      · cases e3
    · intro b q f o hq hsp hex
      have hb2 : b = 4 := by simpa [sp_toss] using hsp
      subst hb2
      cases hq
      obtain ⟨L, v, S1, rfl, hL, hv, hr9, rfl⟩ := toss_sp _ hex
      refine ⟨fun g hg => (by cases hg), fun ho H locs ls cells slots hR => ?_⟩
      cases ho
      refine pm_ex_ok1 (M := pm_Ms) (code := cp_toss) (b := 4) (na := false) (d := d) (ini := false) (tf := (some (.ref 0), qhp sq)) (cf := pm_run X pm_Ms PR0 d) (ret := some .int) C (fun h => by cases h) (by show d + 1 ≤ d + 1; omega) (by show 64 * (d + 1) ≤ 64 * (d + 1); omega) (run0_mono d) (fun mid mm as S t hm h => (run0_CB hm h).one) ?_ [.aload 4] [0] 28 (L, [], qhp sq) (.inl (5, (L, [.ref (123 + 5 * k + 1)], qhp sq))) (fun h => by cases h) toss_al ?_ hle1 hle2 ?_ (fun t ht => by cases ht) H locs ls cells slots hR
      · intro i pc f H locs ls cells slots hir hna hdg hR
        rcases hir with ⟨rfl, x, e1, e2, e3⟩ | ⟨rfl, x, e1, e2, e3⟩ | ⟨rfl, v, e1, e2, e3, e4⟩ | ⟨rfl, e1, e2, e3⟩
        · cases e3
        · cases e3
        · have z : some (Value.ref 0) = some v := congrArg Prod.fst e4
          cases z; cases e3
        · cases e3
      · rw [pm_ex_def rfl]
        simp only [pm_op, pm_load, hL]
        rfl
      · intro b' f' e q hq H1 locs1 ls1 cells1 slots1 hR1
        cases e
        cases hq
        have := kk L H1 locs1 ls1 cells1 slots1 hL hR1
        rw [← e1] at this
        exact this
  refine call fun L H locs ls cells slots hL hR => ?_
  have hLR1 := hR.1
  have h4 : L[4]? = some (some (.ref (123 + 5 * k + 1))) := pm_ld_some.mp hL
  -- where fail throws
  have thrown : ∀ (E : String) (ci : Nat) (pcH : Nat) (r : Int32) (b : Nat), ((qF sq (123 + 5 * k + 1) 1 = 4 ∧ E = nUO ∧ ci = 13) ∨ (qF sq (123 + 5 * k + 1) 1 ≠ 4 ∧ qF sq (123 + 5 * k + 1) 1 ≠ 3 ∧ ¬ (qF sq (123 + 5 * k + 1) 1 = 5 ∧ qF sq (123 + 5 * k + 1) 2 = 1) ∧ E = nIS ∧ ci = 12)) → t = (some (.int r), exH (qhp sq) ci) →
      (∀ (ce : Cell) (q9 : Addr) (H1 : Heap) (locs1 : List Loc), H1[q9]? = some ce → ce.vm = .none → s.vm.findClass E = some ce.cls → W p l e (pm_rm (d + 1) (t.2.1.length - (qhp sq).1.length) (t.2.2 - (qhp sq).2)) s m args9 below meth c H1 locs1 (cells + 1) (slots + 6) (MQ below (fun _ => pm_Post sa base dC dI dA t) args9 s (t.2.1.length - (qhp sq).1.length) (t.2.2 - (qhp sq).2) (fun q : Nat => base ≤ q)) (F0 m pcH ls [.ref q9]) → vx_W p l e (pm_rm (d + 1) (t.2.1.length - (qhp sq).1.length) (t.2.2 - (qhp sq).2)) s m args9 below meth c H1 locs1 (cells + 1) (slots + 6) (MQ below (fun _ => pm_Post sa base dC dI dA t) args9 s (t.2.1.length - (qhp sq).1.length) (t.2.2 - (qhp sq).2) (fun q : Nat => base ≤ q)) (F0 m 30 ls []) q9) →
      decode bp_toss pcH = .ok (.astore 5, 2) → (∃ ops, cp_toss[b]? = some (pcH + 2, ops)) → (∀ (L1 : List (Option Value)), pm_ld L1 4 = some (.ref (123 + 5 * k + 1)) → ∃ F, pm_go X pm_Ms (pm_run X pm_Ms PR0 d) (some .int) cp_toss F b (L1, [], exH (qhp sq) ci) = some t) →
      W p l e (pm_rm (d + 1) (t.2.1.length - (qhp sq).1.length) (t.2.2 - (qhp sq).2)) s m args9 below meth c H locs cells slots (MQ below (fun _ => pm_Post sa base dC dI dA t) args9 s (t.2.1.length - (qhp sq).1.length) (t.2.2 - (qhp sq).2) (fun q : Nat => base ≤ q)) (F0 m 30 ls [.ref (base + (123 + 5 * k + 1 - 8))]) := by
    intro E ci pcH r b hE ht hcatch hdst hblk hrun
    obtain ⟨r1, r2, r3, r4, r5, r6⟩ := hR
    dsimp only at r2 r3 r5 r6
    have hS0 : CallFix p m c bp_toss 6 s args9 pm_tbl "QuestionDesk" := ⟨hx, hb, hml, hown, hts2⟩
    have hat := pm_W_at (ad := pm_ad sa base) (base := base) (dA := dA) hS.2
    have hrecv := va_recv hK.1 r2 (ci := 3) rfl hat
    have hnm : t.2.1.length - (qhp sq).1.length = 1 := by rw [ht]; simp [exH]
    have hns : t.2.2 - (qhp sq).2 = 6 := by rw [ht]; show (qhp sq).2 + 6 - (qhp sq).2 = 6; omega
    have hrun9 := vx_runV (l := l) (e := e) (R := pm_rm (d + 1) (t.2.1.length - (qhp sq).1.length) (t.2.2 - (qhp sq).2)) (below := below) (meth := meth) (H := H) (locs := locs) (cells := cells) (slots := slots) (g := F0 m 30 ls [.ref (base + (123 + 5 * k + 1 - 8))]) (rest := []) hS0 (fail_thr (sa := sa) (base := base) (dC := dC) (dI := dI) (dA := dA) (X := X) (d := d) hl hS hkd hvo hE (by omega)) (cwV 0 hts2 (gd_V (idx := 373) wp_fail_link wp_fail_in wp_fail_sel wp_fail_ini wp_fail_code) rfl rfl rfl ⟨rfl, by decide, by decide, by decide +kernel⟩ ⟨by show d + 1 ≤ d + 1; omega, by show 8 + (1 + 11) + 64 * d ≤ 64 * (d + 1); omega⟩) ⟨pm_blind2, hrecv, fun U hU hW => ⟨⟨by rw [← e1]; rfl, hK.to r4 hU hW, by rw [hU]; exact r2, by rw [hU]; exact r3⟩, hK2.to r4 hU hW⟩⟩ rfl rfl r1.2.1 rfl (lv_room (Nat.zero_le _)) (show decode bp_toss 30 = .ok (.invokevirtual 373, 3) by decide +kernel) ⟨by show cells + 1 ≤ t.2.1.length - (qhp sq).1.length; omega, by show slots + 6 ≤ t.2.2 - (qhp sq).2; omega⟩
    refine run_thr hrun9 (fun _ _ _ z => z) (fun _ _ _ z => z.2.2.2) r4 ?_
    intro E' ce q9 st t1 locs1 hXC hS1 hce hvm hcl
    obtain ⟨rfl, x2, x3, x4⟩ := hXC
    refine hcatch ce q9 t1.heap locs1 hce hvm hcl ?_
    refine lv_astore hx hb hdst r1.has (by decide) rfl (fun ls1 hl1 => ?_)
    have hLR2 : pm_LR (pm_ad sa base) 6 (L.set 5 none) ls1 := LR_set r1 (fun j v hj hv => by
      have : j = 4 := by omega
      subst this
      rw [h4] at hv
      cases hv
      show (1 : Nat) ≠ 2
      decide) hl1
    have h4' : pm_ld (L.set 5 none) 4 = some (.ref (123 + 5 * k + 1)) := by
      rw [pm_ld_some, List.getElem?_set]
      exact h4
    obtain ⟨ops, hblk⟩ := hblk
    obtain ⟨F, hF⟩ := hrun _ h4'
    exact walk F b _ hF _ hblk t1.heap locs1 ls1 (cells + 1) (slots + 6) ⟨hLR2, x2, by rw [x3]; show _ = base + (((qhp sq).1 ++ [(.inr (ci, []) : va_E)]).length); rw [List.length_append]; rfl, hS1, by show (qhp sq).1.length + (cells + 1) = ((qhp sq).1 ++ [(.inr (ci, []) : va_E)]).length; rw [List.length_append]; show _ = _ + 1; omega, by show (qhp sq).2 + (slots + 6) = (qhp sq).2 + 6; omega⟩
  rcases hc with ⟨hcK, rfl⟩ | ⟨hcK, rfl⟩ | ⟨hc3, hc4, rfl⟩
  · have hCB := fail_CB (l := l) (sa := sa) (base := base) (dC := dC) (dI := dI) (dA := dA) (X := X) hS hkd hvo hcK (d - 1)
    rw [show d - 1 + 1 = d by omega] at hCB
    have hrcv : pm_rcv X (qhp sq).1 3 [.ref (123 + 5 * k + 1)] = true := by
      show (if 123 + 5 * k + 1 < 8 then false else match pm_get X (qhp sq).1 (123 + 5 * k + 1) with | some (.inr (c, _)) => c == 3 | _ => false) = true
      rw [if_neg (by omega), hS.get]; rfl
    have hrun := hCB p e _ s m args9 below meth c bp_toss 6 "QuestionDesk" _ _ _ _ 30 373 _ L [] H locs ls cells slots C (by show d + 1 ≤ d + 1; omega) (by show 64 * (d + 1) ≤ 64 * (d + 1); omega) hR (by decide) pm_le_rf hle1 hle2 (by decide +kernel) (Or.inr (Or.inl ⟨rfl, by decide, by decide, hrcv, rfl⟩)) (Or.inl wp_fail_link)
    have := pm_s_call (Q := MQ below (fun _ => pm_Post sa base dC dI dA (some (.int (-15)), qhp sq)) args9 s ((qhp sq).1.length - (qhp sq).1.length) ((qhp sq).2 - (qhp sq).2) (fun q : Nat => base ≤ q)) hrun hR pm_le_rf (fun H1 locs1 ls1 cells1 slots1 hR1 => by
      obtain ⟨F, hF⟩ := (toss_run6 (X := X) (d := d) (s := sq) (L := L)).to
      exact walk F 6 _ hF (33, _) rfl H1 locs1 ls1 cells1 slots1 hR1)
    rw [← e1]
    exact this
  · refine thrown nUO 13 36 _ 8 (Or.inl ⟨hcK, rfl, rfl⟩) rfl (fun ce q9 H1 locs1 hce hvm hcl kk => ?_) (by decide +kernel) ⟨_, rfl⟩ (fun L1 hL1 => ?_)
    · exact vx_catch hown [] ⟨28, 33, 36, 376⟩ [⟨28, 33, 53, 354⟩] (by rw [htab]; rfl) (fun z hz => by cases hz) (by decide) (by decide) (hts2 _ wp_l1) (va_tabs rfl rfl (hK2.2.2.2.2.1 (.castable nUO nUO) (by simp [wx_B]))) hce hvm hcl kk
    · rw [← qhp_ex]
      exact (toss_run8 (s := exS sq 13) hk hL1).to
  · refine thrown nIS 12 53 _ 10 (Or.inr ⟨hc4, fun z => hc3 (Or.inl z), fun z => hc3 (Or.inr z), rfl, rfl⟩) rfl (fun ce q9 H1 locs1 hce hvm hcl kk => ?_) (by decide +kernel) ⟨_, rfl⟩ (fun L1 hL1 => ?_)
    · exact vx_catch hown [⟨28, 33, 36, 376⟩] ⟨28, 33, 53, 354⟩ [] (by rw [htab]; rfl) (fun z hz => by
        have := List.mem_singleton.mp hz
        subst this
        exact Or.inr ⟨by decide, _, hts2 _ wp_l1, hK2.2.2.1⟩) (by decide) (by decide) (hts2 _ wp_l2) (va_tabs rfl rfl (hK2.2.2.2.2.1 (.castable nIS nIS) (by simp [wx_B]))) hce hvm hcl kk
    · rw [← qhp_ex]
      exact (toss_run10 (s := exS sq 12) hk hL1).to
end
