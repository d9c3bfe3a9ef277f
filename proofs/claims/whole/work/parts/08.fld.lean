/-! fields, new objects and arrays, statics, arraycopy -/
theorem pm_cls {ci : Nat} {r : vw_C} (h : pm_cl[ci]? = some r) (hc : ci < 11) : (∀ w ∈ u_ws r.1 r.2.1 r.2.2, w ∈ pm_tbl) ∧ (∀ k, k < r.2.2 → parseFieldDescriptor (r.2.1 k).2.2.1 = some (pm_ty ci k)) ∧ (∀ a, a < r.2.2 → ∀ b, b < r.2.2 → a ≠ b → (r.2.1 a).2.1 ≠ (r.2.1 b).2.1) ∧ r.2.2 = pm_N ci := by
  rcases (show ci = 0 ∨ ci = 1 ∨ ci = 2 ∨ ci = 3 ∨ ci = 4 ∨ ci = 5 ∨ ci = 6 ∨ ci = 7 ∨ ci = 8 ∨ ci = 9 ∨ ci = 10 by omega) with rfl | rfl | rfl | rfl | rfl | rfl | rfl | rfl | rfl | rfl | rfl <;> cases h
  · exact ⟨pm_in0, tyX0_ok, nmX0, rfl⟩
  · exact ⟨pm_in1, tyX1_ok, nmX1, rfl⟩
  · exact ⟨pm_in2, tyX2_ok, nmX2, rfl⟩
  · exact ⟨pm_in3, tyX3_ok, nmX3, rfl⟩
  · exact ⟨pm_in4, tyX4_ok, nmX4, rfl⟩
  · exact ⟨pm_in5, tyX5_ok, nmX5, rfl⟩
  · exact ⟨pm_in6, tyX6_ok, nmX6, rfl⟩
  · exact ⟨pm_in7, tyX7_ok, nmX7, rfl⟩
  · exact ⟨pm_in8, tyX8_ok, nmX8, rfl⟩
  · exact ⟨pm_in9, tyX9_ok, nmX9, rfl⟩
  · exact ⟨pm_in10, tyX10_ok, nmX10, rfl⟩
section PMF
variable {p : Program} {l : Launch} {e : Env} {R : Room} {s : State} {m : MethodId} {args : Array Value} {below : List Frame} {meth : Method} {c : Code} {Q : State → Prop} {cc : ByteArray} {nL : Nat} {own : String} {sa : Nat → Nat} {base : Nat} {dC : Nat → ClassId} {dI : Nat → Nat → Nat} {dA : Nat → ClassId} {X : pm_X} {n0 sl0 nf slf pc : Nat} {f f' : pm_F}
theorem pm_s_getf (C : pm_C p R s m args meth c cc nL own sa base dC dI dA X n0 sl0 nf slf) {n idx : Nat} {r : vw_C} (hc : pm_cl[n / 64]? = some r) (hci : n / 64 < 11) (hk : n % 64 < r.2.2) (hlink : Cond.fieldLink own idx (r.2.1 (n % 64)).1 (r.2.1 (n % 64)).2.1 (r.2.1 (n % 64)).2.2.1 ∈ pm_tbl) (hdg : decode cc pc = .ok (.getfield idx, 3)) (hop : pm_getf X n f = some f') : pm_Go p l e R s m args below meth c Q nL sa base dC dI dA n0 sl0 pc (pc + 3) f f' := by
  obtain ⟨hx, hb, hml, hown, hts, hlk, hK, hc1, hc2, hf1, hl1⟩ := C
  obtain ⟨L, st, S⟩ := f
  intro H locs ls cells slots hR kk
  unfold pm_getf at hop
  split at hop
  · rename_i a st2 hst
    simp only at hst hop
    subst hst
    split at hop
    · cases hop
    · rename_i ha
      split at hop
      · rename_i ci fs hg
        split at hop
        · rename_i hcc
          subst hcc
          split at hop
          · rename_i v hv
            cases hop
            rw [pm_get_hi ha] at hg
            have hat := pm_W_at (ad := pm_ad sa base) (base := base) (dA := dA) hg
            have e1 : pm_cv (pm_ad sa base) (.ref a) = .ref (base + (a - 8)) := by show Value.ref _ = _; rw [pm_ad_hi ha]
            simp only [List.map_cons, e1]
            obtain ⟨C0, T0, N0⟩ := r
            exact va_get (Ts := pm_tbl) hx hb hts (pm_cls hc hci).1 hown hK.1 hR.2.1 (a - 8) hat hc (n % 64) hk (hts _ hlink) (fun _ h9 => h9) (by rw [List.getElem?_map, hv]; rfl) hdg (kk _ _ _ _ _ hR)
          · cases hop
        · cases hop
      · cases hop
  · cases hop
theorem pm_s_putf (C : pm_C p R s m args meth c cc nL own sa base dC dI dA X n0 sl0 nf slf) {n idx : Nat} {r : vw_C} (hc : pm_cl[n / 64]? = some r) (hci : n / 64 < 11) (hk : n % 64 < r.2.2) (hlink : Cond.fieldLink own idx (r.2.1 (n % 64)).1 (r.2.1 (n % 64)).2.1 (r.2.1 (n % 64)).2.2.1 ∈ pm_tbl)
    (hfin : (r.2.1 (n % 64)).2.2.2 = false ∨ ((r.2.1 (n % 64)).2.2.2 = true ∧ meth.name = "<init>" ∧ (r.2.1 (n % 64)).1 = own)) (hdg : decode cc pc = .ok (.putfield idx, 3)) (hop : pm_putf X n f = some f') : pm_Go p l e R s m args below meth c Q nL sa base dC dI dA n0 sl0 pc (pc + 3) f f' := by
  obtain ⟨hx, hb, hml, hown, hts, hlk, hK, hc1, hc2, hf1, hl1⟩ := C
  obtain ⟨L, st, S⟩ := f
  intro H locs ls cells slots hR kk
  unfold pm_putf at hop
  split at hop
  · rename_i v a st2 hst
    simp only at hst hop
    subst hst
    split at hop
    · cases hop
    · rename_i ha
      split at hop
      · rename_i ci fs hg
        split at hop
        · rename_i hcc
          obtain ⟨e0, hlen, hft⟩ := hcc
          subst e0
          cases hop
          rw [pm_get_hi ha] at hg
          have hat := pm_W_at (ad := pm_ad sa base) (base := base) (dA := dA) hg
          have e1 : pm_cv (pm_ad sa base) (.ref a) = .ref (base + (a - 8)) := by show Value.ref _ = _; rw [pm_ad_hi ha]
          simp only [List.map_cons, e1]
          obtain ⟨C0, T0, N0⟩ := r
          obtain ⟨hin, hty, hnm, -⟩ := pm_cls hc hci
          dsimp only at hin hty hnm hk hlink hfin
          obtain ⟨hn, hfit⟩ := pm_fit_ok (ad := pm_ad sa base) hft
          have hd := hty _ hk
          have hl9 : n % 64 < (fs.map (pm_cv (pm_ad sa base))).length := by rw [List.length_map]; exact hlen
          have hap := va_apart (own := own) hts hin (pm_ty (n / 64)) hty hnm hK.1 hc
          obtain ⟨r, h1, cell, q1, q2, q3, q4⟩ := hR.2.1 _ _ hat
          have hr : r = (C0, T0, N0) := Option.some.inj (h1.symm.trans hc)
          subst hr
          obtain ⟨hS, hfc, kC, hkC, hkind⟩ := hK.1.1 (n / 64) _ hc
          obtain ⟨cf, kf, fi, fd, hi, hsl⟩ := hS _ hk
          have hlay := hts _ (hin _ (u_in_lay hk))
          unfold u_lay at hlay
          have hst := (u_facts hfc hkC (u_lays hts hin hk) hi).1
          have fin : ∀ (H' : Heap), H'[base + (a - 8)]? = some (cell.setSlot (dI (n / 64) (n % 64)) (pm_cv (pm_ad sa base) v)) → H'.size = H.size → (∀ q : Nat, q ≠ base + (a - 8) → H'[q]? = H[q]?) → pm_R sa base dC dI dA s nL n0 sl0 (L, st2, (S.1.set (a - 8) (.inr (n / 64, fs.set (n % 64) v)), S.2)) H' (locs ++ [⟨base + (a - 8), dI (n / 64) (n % 64)⟩]) ls cells slots := by
            intro H' e1 e2 e3
            refine pm_R_set ha hR hg ⟨_, hc, ?_⟩ e2 e3
            refine t_OB.to (V := updV (vp_V (fs.map (pm_cv (pm_ad sa base)))) (n % 64) (pm_cv (pm_ad sa base) v)) ⟨_, e1, q2, q3, t_set q4 hap hk _⟩ (fun j _ => ?_)
            have h7 := vp_updV_set hl9 (pm_cv (pm_ad sa base) v) j
            rw [h7]
            simp only [List.map_set]
          rcases hfin with hfin | ⟨hfin, hin2, hdecl⟩
          · rw [if_neg (by rw [hfin]; decide)] at hlay
            have h6 := u_store hfc hkC hkind hlay hi hd hn hfit
            refine W.putK hx hb (f := fd) ⟨hown, hts _ hlink, ⟨_, _, _, hi⟩, hst⟩ (by rw [q2]; exact h6) q1 q3 (by rw [hsl]; exact k2_hasslot (q4 _ hk)) rfl rfl hdg fun H' e1 e2 e3 => ?_
            rw [hsl] at e1 ⊢
            exact kk _ _ _ _ _ (fin H' e1 e2 e3)
          · rw [if_pos hfin] at hlay
            have hcf : m.cls = cf := by
              obtain ⟨_, _, c', _, _, _, -, -, hf', -, -, -, hown2, -⟩ := Cond.laysFinal_spec hlay
              have e1 : c' = cf := by have := hi.symm.trans hf'; simp at this; exact this.1.symm
              rw [hdecl] at hown2
              rw [← e1]; exact Option.some.inj (hown.symm.trans hown2)
            have h6 := u_fits hfc hkC hkind (Or.inr hlay) hi hd hn hfit
            refine W.putFinK hx hb hown (hts _ hlink) hi hst hcf hin2 (by rw [q2]; exact h6) q1 q3 (by rw [hsl]; exact k2_hasslot (q4 _ hk)) rfl rfl hdg fun H' e1 e2 e3 => ?_
            rw [hsl] at e1 ⊢
            exact kk _ _ _ _ _ (fin H' e1 e2 e3)
        · cases hop
      · cases hop
  · cases hop
/-- behind a new cell -/
theorem pm_R_push {L : List (Option Value)} {st st' : List Value} {S : pm_S} {H H1 : Heap} {locs : List Loc} {ls : Array Slot} {cells slots k : Nat} {e1 : va_E} (hR : pm_R sa base dC dI dA s nL n0 sl0 (L, st, S) H locs ls cells slots)
    (h1 : va_at (dC, dI) pm_cl (H.size, pm_ce (pm_ad sa base) dA e1) H1) (z : H1.size = H.size + 1) (oq : ∀ q : Nat, q < H.size → H1[q]? = H[q]?) : pm_R sa base dC dI dA s nL n0 sl0 (L, st', (S.1 ++ [e1], S.2 + k)) H1 locs ls (cells + 1) (slots + k) := by
  obtain ⟨r1, r2, r3, r4, r5, r6⟩ := hR
  dsimp only at r3 r5 r6
  refine ⟨r1, ?_, ?_, ⟨Nat.le_trans r4.1 (by omega), fun x h1 h2 => (oq x (Nat.lt_of_lt_of_le h1 r4.1)).trans (r4.2.1 x h1 h2), r4.2.2⟩, ?_, ?_⟩
  · have hk : ∀ (k : Nat) (x : Nat × va_E), (pm_W (pm_ad sa base) base dA S.1)[k]? = some x → H1[x.1]? = H[x.1]? := fun k x hx => oq x.1 ((r2 k x hx).lt)
    rw [← pm_W_push, ← r3]
    refine (r2.kept hk).app (fun k x hx => ?_)
    have hz : k < 1 := (List.getElem?_eq_some_iff.mp hx).1
    rw [show k = 0 by omega] at hx
    cases hx
    exact h1
  · simp only [List.length_append, List.length_singleton]; omega
  · simp only [List.length_append, List.length_singleton]; omega
  · simp only; omega
theorem pm_blank_at {ci j : Nat} (ad : Nat → Nat) (hj : j < pm_N ci) : defaultValue (pm_ty ci j) = vp_V ((pm_blank ci).map (pm_cv ad)) j := by
  unfold vp_V pm_blank
  rw [List.getD_eq_getElem?_getD, List.getElem?_map, List.getElem?_map, List.getElem?_range hj]
  simp only [Option.map_some, Option.getD_some]
  cases pm_ty ci j <;> rfl
theorem pm_s_new (C : pm_C p R s m args meth c cc nL own sa base dC dI dA X n0 sl0 nf slf) {ci idx : Nat} {r : vw_C} (hc : pm_cl[ci]? = some r) (hci : ci < 11) (hcl : Cond.classLink own idx r.1 ∈ pm_tbl) (hinst : Cond.instantiable r.1 r.2.2 ∈ pm_tbl) (hini : Cond.initialized r.1 ∈ pm_tbl) (hdg : decode cc pc = .ok (.new idx, 3)) (hop : pm_new ci f = some f') (hnf : f'.2.2.1.length ≤ nf ∧ f'.2.2.2 ≤ slf) : pm_Go p l e R s m args below meth c Q nL sa base dC dI dA n0 sl0 pc (pc + 3) f f' := by
  obtain ⟨hx, hb, hml, hown, hts, hlk, hK, hc1, hc2, hf1, hl1⟩ := C
  obtain ⟨L, st, S⟩ := f
  intro H locs ls cells slots hR kk
  unfold pm_new at hop
  rw [if_pos hci] at hop
  cases hop
  obtain ⟨C0, T0, N0⟩ := r
  obtain ⟨hin, hty, hnm, hN⟩ := pm_cls hc hci
  dsimp only at hin hty hnm hN hcl hinst hini hnf
  subst hN
  have hKn := hK.1.1 ci _ hc
  have r5 := hR.2.2.2.2.1
  have r6 := hR.2.2.2.2.2
  dsimp only at r5 r6
  rw [List.length_append, List.length_singleton] at hnf
  refine W.newcK hx hb hown (hts _ hcl) (hts _ hinst) (hts _ hini) rfl hdg (by omega) (by omega) hKn.2.1 rfl fun H1 kC hkC e1 z1 o1 => ?_
  have e2 : Value.ref H.size = pm_cv (pm_ad sa base) (.ref (8 + S.1.length)) := by
    show _ = Value.ref _
    rw [pm_ad_hi (by omega), hR.2.2.1]
    congr 2
    simp only
    omega
  rw [e2]
  exact kk _ _ _ _ _ (pm_R_push hR ⟨_, hc, (u_born (pm_ty ci) hts hin hKn hkC e1 hty).to (fun j hj => pm_blank_at _ hj)⟩ z1 o1)
theorem pm_s_newa (C : pm_C p R s m args meth c cc nL own sa base dC dI dA X n0 sl0 nf slf) {atype : ArrayType} {ty : FieldType} {t : Nat} {k : Nat → vp_A} (harr : Cond.arrayClass ty ∈ pm_tbl) (hty : newarray.typeOf atype = ty) (hbytes : componentBytes ty ≤ 8) (ht : (pm_tys dA)[t]? = some (dA t, ty)) (hra : ∀ (U : State) (cA : ClassId), va_RA U cA ty → U.vm.findClass ("[" ++ ty.toString) = some cA) (hk1 : ∀ (cA : ClassId) (n : Nat), vp_cell cA (k n) = arrV cA n (fun _ => defaultValue ty)) (hk2 : ∀ (n : Nat), pm_ce (pm_ad sa base) dA (.inl (t, k n)) = .inl (dA t, k n)) (hdg : decode cc pc = .ok (.newarray atype, 2)) (hop : pm_newa t k f = some f') (hnf : f'.2.2.1.length ≤ nf ∧ f'.2.2.2 ≤ slf) : pm_Go p l e R s m args below meth c Q nL sa base dC dI dA n0 sl0 pc (pc + 2) f f' := by
  obtain ⟨hx, hb, hml, hown, hts, hlk, hK, hc1, hc2, hf1, hl1⟩ := C
  obtain ⟨L, st, S⟩ := f
  intro H locs ls cells slots hR kk
  unfold pm_newa at hop
  split at hop
  · rename_i n st2 hst
    simp only at hst hop
    subst hst
    split at hop
    · cases hop
    · rename_i hin
      cases hop
      have r5 := hR.2.2.2.2.1
      have r6 := hR.2.2.2.2.2
      dsimp only at r5 r6 hnf
      rw [List.length_append, List.length_singleton] at hnf
      have hn0 : ¬ n < 0 := fun z => hin (Or.inl z)
      have hn1 : n.toNatClampNeg < 100000 := Nat.not_le.mp fun z => hin (Or.inr z)
      subst hty
      simp only [List.map_cons]
      refine va_newaK hx hb (hts _ harr) rfl hdg rfl hn0 rfl (Nat.le_trans (Nat.mul_le_mul (Nat.le_of_lt hn1) hbytes) (Nat.le_of_ble_eq_true rfl)) (by omega) (by omega) rfl fun H1 cA e1 z1 o1 hAr hNm => ?_
      have hcA : cA = dA t := by
        have h1 := hra s _ (hK.1.2 t _ ht).2
        exact Option.some.inj (hNm.symm.trans h1)
      subst hcA
      have e2 : Value.ref H.size = pm_cv (pm_ad sa base) (.ref (8 + S.1.length)) := by
        show _ = Value.ref _
        rw [pm_ad_hi (by omega), hR.2.2.1]
        congr 2
        simp only
        omega
      show W _ _ _ _ _ _ _ _ _ _ _ _ _ _ _ (F0 m (pc + 2) ls (.ref H.size :: List.map (pm_cv (pm_ad sa base)) st2))
      rw [e2]
      refine kk _ _ _ _ _ (pm_R_push hR ?_ z1 o1)
      rw [hk2]
      show H1[H.size]? = some (vp_cell _ _)
      rw [hk1]
      exact e1
  · cases hop
theorem pm_s_anew (C : pm_C p R s m args meth c cc nL own sa base dC dI dA X n0 sl0 nf slf) {idx t : Nat} {r : vw_C} (hc : pm_cl[pm_ac t]? = some r) (h25 : 2 ≤ t ∧ t < 5) (hcl : Cond.classLink own idx r.1 ∈ pm_tbl) (hov : r.1 ∈ [RX3, RX8, RX7]) (hdg : decode cc pc = .ok (.anewarray idx, 3)) (hop : pm_newa t (fun n => (n, .inr (.inr (.inr (.inr (fun _ => none)))))) f = some f') (hnf : f'.2.2.1.length ≤ nf ∧ f'.2.2.2 ≤ slf) : pm_Go p l e R s m args below meth c Q nL sa base dC dI dA n0 sl0 pc (pc + 3) f f' := by
  obtain ⟨hx, hb, hml, hown, hts, hlk, hK, hc1, hc2, hf1, hl1⟩ := C
  obtain ⟨L, st, S⟩ := f
  intro H locs ls cells slots hR kk
  unfold pm_newa at hop
  split at hop
  · rename_i n st2 hst
    simp only at hst hop
    subst hst
    split at hop
    · cases hop
    · rename_i hin
      cases hop
      have r5 := hR.2.2.2.2.1
      have r6 := hR.2.2.2.2.2
      dsimp only at r5 r6 hnf
      rw [List.length_append, List.length_singleton] at hnf
      have hn0 : ¬ n < 0 := fun z => hin (Or.inl z)
      have hn1 : n.toNatClampNeg < 100000 := Nat.not_le.mp fun z => hin (Or.inr z)
      simp only [List.map_cons]
      obtain ⟨r', hr1, hr2⟩ := pm_tys_at (dA := dA) h25
      cases hc.symm.trans hr1
      refine W.anew hx hb hown (hts _ hcl) (va_AO.use (hK.2.2.2.2.2.2 _ hov)) rfl hdg rfl hn0 (by omega) (by omega) (by omega) fun cA kA comp f1 f2 f3 f4 => ?_
      obtain ⟨kA', comp', -, -, -, f5⟩ := (hK.1.2 t _ hr2).2
      have hcA : cA = dA t := Option.some.inj (f1.symm.trans f5)
      subst hcA
      have e2 : Value.ref H.size = pm_cv (pm_ad sa base) (.ref (8 + S.1.length)) := by
        show _ = Value.ref _
        rw [pm_ad_hi (by omega), hR.2.2.1]
        congr 2
        simp only
        omega
      show W _ _ _ _ _ _ _ _ _ _ _ _ _ _ _ (F0 m (pc + 3) ls (.ref H.size :: List.map (pm_cv (pm_ad sa base)) st2))
      rw [e2]
      refine kk _ _ _ _ _ (pm_R_push hR ?_ (Array.size_push _) (fun q hq => by rw [Array.getElem?_push, if_neg (Nat.ne_of_lt hq)]))
      show (H.push _)[H.size]? = some (vp_cell (dA t) (n.toNatClampNeg, .inr (.inr (.inr (.inr (fun _ => none))))))
      rw [Array.getElem?_push_size, vp_cell_q, ← arrV_new]
      rfl
  · cases hop
theorem pm_s_gets (C : pm_C p R s m args meth c cc nL own sa base dC dI dA X n0 sl0 nf slf) {idx n : Nat} {q : String × Nat} (hq : q ∈ pm_sts) (hn : q.2 = n) (hn8 : n < 8) (hlink : Cond.fieldLink own idx "QuestionDesk" q.1 "[I" ∈ pm_tbl ∨ (own, idx, q.1) ∈ pm_nwf) (hdg : decode cc pc = .ok (.getstatic idx, 3)) (hop : pm_push (.ref n) f = some f') : pm_Go p l e R s m args below meth c Q nL sa base dC dI dA n0 sl0 pc (pc + 3) f f' := by
  obtain ⟨hx, hb, hml, hown, hts, hlk, hK, hc1, hc2, hf1, hl1⟩ := C
  obtain ⟨L, st, S⟩ := f
  intro H locs ls cells slots hR kk
  unfold pm_push at hop
  cases hop
  subst hn
  have e2 : Value.ref (sa q.2) = pm_cv (pm_ad sa base) (.ref q.2) := by
    show _ = Value.ref _
    rw [pm_ad_lo hn8]
  rcases hlink with hlink | hlink
  · refine va_gets hx hb (hK.2.2.1 q hq) hR.2.2.2.1 hown (hts _ hlink) (fun _ h9 => h9) hdg ?_
    rw [e2]
    exact kk _ _ _ _ _ hR
  · refine va_getsN hx hb (hK.2.2.1 q hq) hR.2.2.2.1 hown (va_Nw.use rfl (hK.2.2.2.2.1 _ hlink)) (fun _ h9 => h9) hdg ?_
    rw [e2]
    exact kk _ _ _ _ _ hR
theorem pm_s_oini (C : pm_C p R s m args meth c cc nL own sa base dC dI dA X n0 sl0 nf slf) {idx : Nat} (hlink : Cond.methodLink own idx Lib.objectInit ∈ pm_tbl) (hin : Cond.instanceMethod Lib.objectInit ∈ pm_tbl) (hco : Cond.code Lib.objectInit ⟨#[0xb1]⟩ 1 none ∈ pm_tbl) (hdg : decode cc pc = .ok (.invokespecial idx, 3)) (hop : pm_oini f = some f') : pm_Go p l e R s m args below meth c Q nL sa base dC dI dA n0 sl0 pc (pc + 3) f f' := by
  obtain ⟨hx, hb, hml, hown, hts, hlk, hK, hc1, hc2, hf1, hl1⟩ := C
  obtain ⟨L, st, S⟩ := f
  intro H locs ls cells slots hR kk
  unfold pm_oini at hop
  split at hop
  · rename_i a st2 hst
    simp only at hst hop
    subst hst
    split at hop
    · rename_i hsum
      cases hop
      refine W.objInit hx hb hown (hts _ hlink) (hts _ hin) (hts _ hco) rfl (by rw [hml]; exact hR.1.2.1) rfl hdg hf1 ?_ (kk _ _ _ _ _ hR)
      have h3 := pm_cv_sum (pm_ad sa base) st2
      show 2 * 0 + ((st2.map (pm_cv (pm_ad sa base))).map fun v => v.category).sum + 12 ≤ _
      rw [h3]
      omega
    · cases hop
  · cases hop
theorem pm_s_copy (C : pm_C p R s m args meth c cc nL own sa base dC dI dA X n0 sl0 nf slf) {idx : Nat} (hlink : Cond.methodLink own idx arraycopyName ∈ pm_tbl) (hnat : Cond.native arraycopyName ∈ pm_tbl) (hstat : Cond.static arraycopyName ∈ pm_tbl) (hini : Cond.initialized "java/lang/System" ∈ pm_tbl) (hdg : decode cc pc = .ok (.invokestatic idx, 3)) (hop : pm_copy X f = some f') : pm_Go p l e R s m args below meth c Q nL sa base dC dI dA n0 sl0 pc (pc + 3) f f' := by
  obtain ⟨hx, hb, hml, hown, hts, hlk, hK, hc1, hc2, hf1, hl1⟩ := C
  obtain ⟨L, st, S⟩ := f
  intro H locs ls cells slots hR kk
  unfold pm_copy at hop
  split at hop
  · rename_i n dp a sp a0 st2 hst
    simp only at hst hop
    subst hst
    split at hop
    · cases hop
    · rename_i ha8
      have ha : ¬ a < 8 := fun z => ha8 (Or.inl z)
      have hsum : (st2.map fun v => v.category).sum ≤ 8 := Nat.not_lt.mp fun z => ha8 (Or.inr z)
      split at hop
      · rename_i m0 g0 m1 g1 hg0 hg1
        split at hop
        · cases hop
        · rename_i hin
          cases hop
          obtain ⟨cs, x1, x2, x3, x4, x4b, x5⟩ := pm_gx hK hR.2.1 hR.2.2.2.1 hg0
          rw [pm_get_hi ha] at hg1
          have hat := pm_W_at (ad := pm_ad sa base) (base := base) (dA := dA) hg1
          have e1 : pm_cv (pm_ad sa base) (.ref a) = .ref (base + (a - 8)) := by show Value.ref _ = _; rw [pm_ad_hi ha]
          have hc1 : H[base + (a - 8)]? = some (vp_cell (dA 0) (m1, .inl g1)) := hR.2.1 _ _ hat
          have h1 : ¬ sp < 0 := fun z => hin (Or.inl z)
          have h2 : ¬ dp < 0 := fun z => hin (Or.inr (Or.inl z))
          have h3 : ¬ n < 0 := fun z => hin (Or.inr (Or.inr (Or.inl z)))
          have h4 : sp.toNatClampNeg + n.toNatClampNeg ≤ m0 := Nat.not_lt.mp fun z => hin (Or.inr (Or.inr (Or.inr (Or.inl z))))
          have h5 : dp.toNatClampNeg + n.toNatClampNeg ≤ m1 := Nat.not_lt.mp fun z => hin (Or.inr (Or.inr (Or.inr (Or.inr z))))
          have nn : ∀ z : Int32, ¬ z < 0 → z.toInt = (z.toNatClampNeg : Int) := by
            intro z hz
            have hz0 : (0 : Int) ≤ z.toInt := by
              have := Int32.not_lt.mp hz
              simpa using Int32.le_iff_toInt_le.mp this
            show z.toInt = ((z.toInt.toNat : Nat) : Int)
            omega
          simp only [List.map_cons, e1]
          show W _ _ _ _ _ _ _ _ _ _ _ _ _ _ _ (F0 m pc ls (.int n :: .int dp :: .ref (base + (a - 8)) :: .int sp :: .ref (pm_ad sa base a0) :: List.map (pm_cv (pm_ad sa base)) st2))
          intro T hT X2
          obtain ⟨y1, k0, hk0, cm0, hkk0⟩ := x2
          obtain ⟨-, k1, hk1, cm1, hkk1⟩ := (hK.1.2 0 _ rfl).1 m1 (fun j => .int (g1 j))
          obtain ⟨vm', X', step⟩ := X2.arraycopy hx hown (hts _ hlink) (hts _ hnat) (hts _ hstat) (hts _ hini) (src := pm_ad sa base a0) (dst := base + (a - 8)) (cs := cs) (cd := vp_cell (dA 0) (m1, .inl g1)) (srcPos := sp) (destPos := dp) (n := n) (by rw [hT]; exact x1) (by rw [hT]; exact hc1)
            y1 (fun _ h => by cases h) x3 (fun h => by cases h) hk0 hk1 hkk0 hkk1 rfl h1 h2 h3
            (by rw [nn sp h1, nn n h3]; omega)
            (by rw [nn dp h2, nn n h3]; show ¬ _ > ((arrV (dA 0) m1 (fun j => .int (g1 j))).slots.size : Int); rw [arrV_size]; omega)
            (fun vm₁ _ i hi => by
              have e : cs.slots.getD (sp.toNatClampNeg + i) .null = .int (g0 (sp.toNatClampNeg + i)) := by
                rw [Array.getD_eq_getD_getElem?, x5 _ (by omega)]
                rfl
              refine ⟨?_, ?_⟩
              · rw [e]; rfl
              · rw [e]; exact trivial)
            (g := F0 m pc ls (.int n :: .int dp :: .ref (base + (a - 8)) :: .int sp :: .ref (pm_ad sa base a0) :: List.map (pm_cv (pm_ad sa base)) st2)) rfl (by rw [hml]; exact hR.1.2.1) (rest := List.map (pm_cv (pm_ad sa base)) st2) rfl (by rw [hb]; exact hdg) hf1
            (by
              show 2 * 0 + ((st2.map (pm_cv (pm_ad sa base))).map fun v => v.category).sum + (nativeFrameWords "java/lang/System" "arraycopy" 5 + 11) ≤ _
              rw [pm_cv_sum]
              have : nativeFrameWords "java/lang/System" "arraycopy" 5 = 7 := by decide
              omega)
          have e9 : copied cs (vp_cell (dA 0) (m1, .inl g1)) sp dp n = vp_cell (dA 0) (m1, .inl (va_cpy g0 g1 sp.toNatClampNeg dp.toNatClampNeg n.toNatClampNeg)) := va_copiedX (fun z => .int z) cs (dA 0) g0 g1 x5 h4
          rw [e9] at X' step
          have hl : base + (a - 8) < H.size := (Array.getElem?_eq_some_iff.mp hc1).1
          have hheap : ((T.setVm vm').setCell (base + (a - 8)) (vp_cell (dA 0) (m1, .inl (va_cpy g0 g1 sp.toNatClampNeg dp.toNatClampNeg n.toNatClampNeg)))).heap = H.setIfInBounds (base + (a - 8)) (vp_cell (dA 0) (m1, .inl (va_cpy g0 g1 sp.toNatClampNeg dp.toNatClampNeg n.toNatClampNeg))) := by rw [← hT]; rfl
          have oq : ∀ q : Nat, q ≠ base + (a - 8) → (H.setIfInBounds (base + (a - 8)) (vp_cell (dA 0) (m1, .inl (va_cpy g0 g1 sp.toNatClampNeg dp.toNatClampNeg n.toNatClampNeg))))[q]? = H[q]? := fun q hq => by simp [Array.getElem?_setIfInBounds, Ne.symm hq]
          have h0 := pm_R_set (st' := st2) (k := 0) (e1 := .inl (0, m1, .inl (va_cpy g0 g1 sp.toNatClampNeg dp.toNatClampNeg n.toNatClampNeg))) ha hR hg1 (H1 := H.setIfInBounds (base + (a - 8)) (vp_cell (dA 0) (m1, .inl (va_cpy g0 g1 sp.toNatClampNeg dp.toNatClampNeg n.toNatClampNeg)))) (show (H.setIfInBounds (base + (a - 8)) _)[base + (a - 8)]? = some _ by simp [Array.getElem?_setIfInBounds, hl]; rfl) (by simp) oq
          obtain ⟨t, a1, b1⟩ := kk _ (locs ++ (cs.stretch sp.toNatClampNeg n.toNatClampNeg).zipIdx.map fun q => ⟨base + (a - 8), dp.toNatClampNeg + q.2⟩) ls cells slots ⟨h0.1, h0.2.1, h0.2.2.1, ⟨h0.2.2.2.1.1, h0.2.2.2.1.2.1, fun q hq => by
            rcases List.mem_append.mp hq with h | h
            · exact hR.2.2.2.1.2.2 q h
            · obtain ⟨z, -, hz⟩ := List.mem_map.mp h
              rw [← hz]
              exact Nat.le_add_right _ _⟩, h0.2.2.2.2⟩ _ hheap X'
          exact ⟨t, step t a1, b1⟩
      · cases hop
  · cases hop
theorem pm_s_max (C : pm_C p R s m args meth c cc nL own sa base dC dI dA X n0 sl0 nf slf) {idx : Nat} (hlink : Cond.methodLink own idx Lib.Math.max.name ∈ pm_tbl) (hstat : Cond.static Lib.Math.max.name ∈ pm_tbl) (hini : Cond.initialized "java/lang/Math" ∈ pm_tbl) (hco : Cond.code Lib.Math.max.name Lib.Math.max.code 2 (some .int) ∈ pm_tbl) (hdg : decode cc pc = .ok (.invokestatic idx, 3)) (hop : pm_mm (fun x y => if x < y then y else x) f = some f') (hnf : f'.2.2.1.length ≤ nf ∧ f'.2.2.2 ≤ slf) : pm_Go p l e R s m args below meth c Q nL sa base dC dI dA n0 sl0 pc (pc + 3) f f' := by
  obtain ⟨hx, hb, hml, hown, hts, hlk, hK, hc1, hc2, hf1, hl1⟩ := C
  obtain ⟨L, st, S⟩ := f
  intro H locs ls cells slots hR kk
  unfold pm_mm at hop
  split at hop
  · rename_i y x st2 hst
    simp only at hst hop
    subst hst
    split at hop
    · rename_i hsum
      cases hop
      have r5 := hR.2.2.2.2.1
      have r6 := hR.2.2.2.2.2
      dsimp only at r5 r6 hnf
      exact va_mmax hx hb (by rw [hml]; exact hR.1.2.1.symm) hown (hts _ hlink) (hts _ hstat) (hts _ hini) (hts _ hco) hf1 (by rw [pm_cv_sum]; omega) (by omega) (by omega) hdg (kk _ _ _ _ _ hR)
    · cases hop
  · cases hop
theorem pm_s_min (C : pm_C p R s m args meth c cc nL own sa base dC dI dA X n0 sl0 nf slf) {idx : Nat} (hlink : Cond.methodLink own idx Lib.Math.min.name ∈ pm_tbl) (hstat : Cond.static Lib.Math.min.name ∈ pm_tbl) (hini : Cond.initialized "java/lang/Math" ∈ pm_tbl) (hco : Cond.code Lib.Math.min.name Lib.Math.min.code 2 (some .int) ∈ pm_tbl) (hdg : decode cc pc = .ok (.invokestatic idx, 3)) (hop : pm_mm (fun x y => if y < x then y else x) f = some f') (hnf : f'.2.2.1.length ≤ nf ∧ f'.2.2.2 ≤ slf) : pm_Go p l e R s m args below meth c Q nL sa base dC dI dA n0 sl0 pc (pc + 3) f f' := by
  obtain ⟨hx, hb, hml, hown, hts, hlk, hK, hc1, hc2, hf1, hl1⟩ := C
  obtain ⟨L, st, S⟩ := f
  intro H locs ls cells slots hR kk
  unfold pm_mm at hop
  split at hop
  · rename_i y x st2 hst
    simp only at hst hop
    subst hst
    split at hop
    · rename_i hsum
      cases hop
      have r5 := hR.2.2.2.2.1
      have r6 := hR.2.2.2.2.2
      dsimp only at r5 r6 hnf
      exact va_mmin hx hb (by rw [hml]; exact hR.1.2.1.symm) hown (hts _ hlink) (hts _ hstat) (hts _ hini) (hts _ hco) hf1 (by rw [pm_cv_sum]; omega) (by omega) (by omega) hdg (kk _ _ _ _ _ hR)
    · cases hop
  · cases hop
end PMF
