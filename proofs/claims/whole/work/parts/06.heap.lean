/-! the ops of the pure machine are the machine's: those of the heap -/
theorem pm_get_hi {X : pm_X} {h : List va_E} {a : Nat} (ha : ¬ a < 8) : pm_get X h a = h[a - 8]? := by
  unfold pm_get; rw [if_neg ha]
theorem pm_get_lo {X : pm_X} {h : List va_E} {a n : Nat} {g : Nat → Int32} (ha : a < 8) (hg : pm_get X h a = some (.inl (0, n, .inl g))) : X a = some (n, g) := by
  unfold pm_get at hg
  rw [if_pos ha] at hg
  cases hx : X a with
  | none => rw [hx] at hg; cases hg
  | some q =>
    rw [hx] at hg
    obtain ⟨k, f⟩ := q
    simp only [Option.map_some] at hg
    cases hg
    rfl
theorem pm_ad_hi {sa : Nat → Nat} {base a : Nat} (ha : ¬ a < 8) : pm_ad sa base a = base + (a - 8) := if_neg ha
theorem pm_ad_lo {sa : Nat → Nat} {base a : Nat} (ha : a < 8) : pm_ad sa base a = sa a := if_pos ha
theorem pm_fit_ok {ad : Nat → Nat} {ty : FieldType} {v : Value} (h : pm_fit ty v = true) : narrow ty (pm_cv ad v) = pm_cv ad v ∧ fits ty (pm_cv ad v) = true := by
  cases ty <;> cases v <;> first | (cases h; done) | (exact ⟨rfl, rfl⟩) | skip
  rename_i x
  simp only [pm_fit, Bool.or_eq_true, beq_iff_eq] at h
  rcases h with rfl | rfl <;> exact ⟨rfl, rfl⟩
section PMH
variable {p : Program} {l : Launch} {e : Env} {R : Room} {s : State} {m : MethodId} {args : Array Value} {below : List Frame} {meth : Method} {c : Code} {Q : State → Prop} {cc : ByteArray} {nL : Nat} {own : String} {sa : Nat → Nat} {base : Nat} {dC : Nat → ClassId} {dI : Nat → Nat → Nat} {dA : Nat → ClassId} {X : pm_X} {n0 sl0 nf slf pc : Nat} {f f' : pm_F}
/-- an int array of the pure heap, or a read-only one -/
theorem pm_gx {H : Heap} {locs : List Loc} {h : List va_E} {a n : Nat} {g : Nat → Int32} (hK : pm_K sa base dC dI dA X s) (hP : va_P (dC, dI) pm_cl (pm_W (pm_ad sa base) base dA h) H) (hS : va_S (fun q : Nat => base ≤ q) s.heap H locs) (hg : pm_get X h a = some (.inl (0, n, .inl g))) : pm_RO (pm_ad sa base a) n g s H := by
  by_cases ha : a < 8
  · rw [pm_ad_lo ha]
    obtain ⟨h1, h2⟩ := hK.2.1 _ _ _ (pm_get_lo ha hg)
    exact h1.kept (hS.2.1 _ (Nat.lt_of_lt_of_le h2 hK.2.2.2.2.2.1) (Nat.not_le.mpr h2))
  · rw [pm_ad_hi ha]
    rw [pm_get_hi ha] at hg
    have hc : H[base + (a - 8)]? = some (vp_cell (dA 0) (n, .inl g)) := hP _ _ (pm_W_at hg)
    have hsz : (vp_cell (dA 0) (n, .inl g)).slots.size = n := by
      show (arrV _ _ _).slots.size = n
      rw [arrV_size]
    refine ⟨_, hc, (hK.1.2 0 _ rfl).1 n (fun j => .int (g j)), (fun q => by cases q), Nat.le_of_eq hsz.symm, (by rw [hsz]), fun j hj => ?_⟩
    · show (arrV _ _ _).slots[j]? = _
      rw [arrV_read _ _ hj]
theorem pm_s_iald (C : pm_C p R s m args meth c cc nL own sa base dC dI dA X n0 sl0 nf slf) (hdg : decode cc pc = .ok (.iaload, 1)) (hop : pm_iald X f = some f') : pm_Go p l e R s m args below meth c Q nL sa base dC dI dA n0 sl0 pc (pc + 1) f f' := by
  obtain ⟨hx, hb, hml, hown, hts, hlk, hK, hc1, hc2, hf1, hl1⟩ := C
  obtain ⟨L, st, S⟩ := f
  intro H locs ls cells slots hR kk
  unfold pm_iald at hop
  split at hop
  · rename_i i a st2 hst
    simp only at hst hop
    subst hst
    split at hop
    · rename_i n g hg
      split at hop
      · cases hop
      · rename_i hin
        cases hop
        obtain ⟨scr, h1, h2, h3, h4, h4b, h5⟩ := pm_gx hK hR.2.1 hR.2.2.2.1 hg
        have hlt : i.toNatClampNeg < n := Nat.not_le.mp fun q => hin (Or.inr q)
        exact W.iald hx hb h1 h2 h3 (fun z => z.elim (fun q => hin (Or.inl q)) (fun q => by omega)) (h5 _ hlt) rfl rfl hdg (kk _ _ _ _ _ hR)
    · cases hop
  · cases hop
theorem pm_s_alen (C : pm_C p R s m args meth c cc nL own sa base dC dI dA X n0 sl0 nf slf) (hdg : decode cc pc = .ok (.arraylength, 1)) (hop : pm_alen X f = some f') : pm_Go p l e R s m args below meth c Q nL sa base dC dI dA n0 sl0 pc (pc + 1) f f' := by
  obtain ⟨hx, hb, hml, hown, hts, hlk, hK, hc1, hc2, hf1, hl1⟩ := C
  obtain ⟨L, st, S⟩ := f
  intro H locs ls cells slots hR kk
  unfold pm_alen at hop
  split at hop
  · rename_i a st2 hst
    simp only at hst hop
    subst hst
    split at hop
    · rename_i n k hg
      cases hop
      by_cases ha : a < 8
      · unfold pm_get at hg
        rw [if_pos ha] at hg
        cases hxa : X a with
        | none => rw [hxa] at hg; cases hg
        | some q =>
          rw [hxa] at hg
          obtain ⟨n2, g2⟩ := q
          cases hg
          obtain ⟨scr, h1, h2, h3, h4, h4b, h5⟩ := pm_gx (a := a) (n := n2) (g := g2) hK hR.2.1 hR.2.2.2.1 (by unfold pm_get; rw [if_pos ha, hxa]; rfl)
          exact W.alen hx hb h1 h2 h4b rfl rfl hdg (kk _ _ _ _ _ hR)
      · rw [pm_get_hi ha] at hg
        have hat := pm_W_at (ad := pm_ad sa base) (base := base) (dA := dA) hg
        have e1 : pm_cv (pm_ad sa base) (.ref a) = .ref (base + (a - 8)) := by show Value.ref _ = _; rw [pm_ad_hi ha]
        simp only [List.map_cons, e1]
        exact va_alen hx hb hK.1 hR.2.1 (a - 8) 0 hat rfl rfl hdg (kk _ _ _ _ _ hR)
    · cases hop
  · cases hop
theorem pm_s_lald (C : pm_C p R s m args meth c cc nL own sa base dC dI dA X n0 sl0 nf slf) (hdg : decode cc pc = .ok (.laload, 1)) (hop : pm_lald X f = some f') : pm_Go p l e R s m args below meth c Q nL sa base dC dI dA n0 sl0 pc (pc + 1) f f' := by
  obtain ⟨hx, hb, hml, hown, hts, hlk, hK, hc1, hc2, hf1, hl1⟩ := C
  obtain ⟨L, st, S⟩ := f
  intro H locs ls cells slots hR kk
  unfold pm_lald at hop
  split at hop
  · rename_i i a st2 hst
    simp only at hst hop
    subst hst
    split at hop
    · rename_i n g hg
      split at hop
      · cases hop
      · rename_i hin
        cases hop
        by_cases ha : a < 8
        · unfold pm_get at hg
          rw [if_pos ha] at hg
          cases hxa : X a <;> rw [hxa] at hg <;> cases hg
        · rw [pm_get_hi ha] at hg
          have hat := pm_W_at (ad := pm_ad sa base) (base := base) (dA := dA) hg
          have e1 : pm_cv (pm_ad sa base) (.ref a) = .ref (base + (a - 8)) := by show Value.ref _ = _; rw [pm_ad_hi ha]
          simp only [List.map_cons, e1]
          exact va_lald hx hb hK.1 hR.2.1 (a - 8) 1 hat rfl hin hdg (kk _ _ _ _ _ hR)
    · cases hop
  · cases hop
theorem pm_tys_at {t : Nat} (h : 2 ≤ t ∧ t < 5) : ∃ r : vw_C, pm_cl[pm_ac t]? = some r ∧ (pm_tys dA)[t]? = some (dA t, .object r.1) := by
  rcases (show t = 2 ∨ t = 3 ∨ t = 4 by omega) with rfl | rfl | rfl <;> exact ⟨_, rfl, rfl⟩
theorem pm_s_aald (C : pm_C p R s m args meth c cc nL own sa base dC dI dA X n0 sl0 nf slf) (hdg : decode cc pc = .ok (.aaload, 1)) (hop : pm_aald X f = some f') : pm_Go p l e R s m args below meth c Q nL sa base dC dI dA n0 sl0 pc (pc + 1) f f' := by
  obtain ⟨hx, hb, hml, hown, hts, hlk, hK, hc1, hc2, hf1, hl1⟩ := C
  obtain ⟨L, st, S⟩ := f
  intro H locs ls cells slots hR kk
  unfold pm_aald at hop
  split at hop
  · rename_i i a st2 hst
    simp only at hst hop
    subst hst
    split at hop
    · rename_i t n g hg
      split at hop
      · rename_i ht
        split at hop
        · cases hop
        · rename_i hin
          cases hop
          by_cases ha : a < 8
          · unfold pm_get at hg
            rw [if_pos ha] at hg
            cases hxa : X a <;> rw [hxa] at hg <;> cases hg
          · rw [pm_get_hi ha] at hg
            have hat := pm_W_at (ad := pm_ad sa base) (base := base) (dA := dA) hg
            have e1 : pm_cv (pm_ad sa base) (.ref a) = .ref (base + (a - 8)) := by show Value.ref _ = _; rw [pm_ad_hi ha]
            obtain ⟨r, -, hr2⟩ := pm_tys_at (dA := dA) ht
            simp only [List.map_cons, e1]
            refine va_aldq hx hb hK.1 hR.2.1 (a - 8) t hat hr2 hin hdg ?_
            have e2 : va_rf ((g i.toNatClampNeg).map (pm_ad sa base)) = pm_cv (pm_ad sa base) (va_rf (g i.toNatClampNeg)) := by cases g i.toNatClampNeg <;> rfl
            rw [e2]
            exact kk _ _ _ _ _ hR
      · cases hop
    · cases hop
  · cases hop
/-- behind a store into the cell of the pure address a -/
theorem pm_R_set {L : List (Option Value)} {st st' : List Value} {S : pm_S} {H H1 : Heap} {locs : List Loc} {ls : Array Slot} {cells slots a k : Nat} {e0 e1 : va_E} (ha : ¬ a < 8) (hR : pm_R sa base dC dI dA s nL n0 sl0 (L, st, S) H locs ls cells slots) (he : S.1[a - 8]? = some e0)
    (h1 : va_at (dC, dI) pm_cl (base + (a - 8), pm_ce (pm_ad sa base) dA e1) H1) (z : H1.size = H.size) (oq : ∀ q : Nat, q ≠ base + (a - 8) → H1[q]? = H[q]?) : pm_R sa base dC dI dA s nL n0 sl0 (L, st', (S.1.set (a - 8) e1, S.2)) H1 (locs ++ [⟨base + (a - 8), k⟩]) ls cells slots := by
  obtain ⟨r1, r2, r3, r4, r5, r6⟩ := hR
  refine ⟨r1, ?_, ?_, r4.put z oq (Nat.le_add_right _ _), ?_, r6⟩
  · have := va_P.set r2 pm_W_D (pm_W_at he) h1 oq
    rw [pm_W_set] at this
    exact this
  · simp only at r3 ⊢
    rw [z, r3, List.length_set]
  · simp only at r5 ⊢
    rw [r5, List.length_set]
theorem pm_s_iast (C : pm_C p R s m args meth c cc nL own sa base dC dI dA X n0 sl0 nf slf) (hdg : decode cc pc = .ok (.iastore, 1)) (hop : pm_iast X f = some f') : pm_Go p l e R s m args below meth c Q nL sa base dC dI dA n0 sl0 pc (pc + 1) f f' := by
  obtain ⟨hx, hb, hml, hown, hts, hlk, hK, hc1, hc2, hf1, hl1⟩ := C
  obtain ⟨L, st, S⟩ := f
  intro H locs ls cells slots hR kk
  unfold pm_iast at hop
  split at hop
  · rename_i x i a st2 hst
    simp only at hst hop
    subst hst
    split at hop
    · cases hop
    · rename_i ha
      split at hop
      · rename_i n g hg
        split at hop
        · cases hop
        · rename_i hin
          cases hop
          rw [pm_get_hi ha] at hg
          have hat := pm_W_at (ad := pm_ad sa base) (base := base) (dA := dA) hg
          have e1 : pm_cv (pm_ad sa base) (.ref a) = .ref (base + (a - 8)) := by show Value.ref _ = _; rw [pm_ad_hi ha]
          have hc : H[base + (a - 8)]? = some (vp_cell (dA 0) (n, .inl g)) := hR.2.1 _ _ hat
          simp only [List.map_cons, e1]
          refine W.iast hx hb hc ((hK.1.2 0 _ rfl).1 n (fun j => .int (g j))) (fun q => by cases q) (by show ¬ (i < 0 ∨ (arrV _ _ _).slots.size ≤ _); rw [arrV_size]; exact hin) rfl rfl hdg fun H1 e z oq => ?_
          refine kk _ _ _ _ _ (pm_R_set ha hR hg ?_ z oq)
          show H1[base + (a - 8)]? = some (vp_cell (dA 0) (n, .inl (upd g i.toNatClampNeg x)))
          rw [e, vp_cell_i, vp_cell_i, arrV_store]
          congr 2
          funext q
          by_cases hq : q = i.toNatClampNeg
          · subst hq
            simp [updV, upd]
          · simp [updV, upd, hq]
      · cases hop
  · cases hop
theorem pm_s_last (C : pm_C p R s m args meth c cc nL own sa base dC dI dA X n0 sl0 nf slf) (hdg : decode cc pc = .ok (.lastore, 1)) (hop : pm_last X f = some f') : pm_Go p l e R s m args below meth c Q nL sa base dC dI dA n0 sl0 pc (pc + 1) f f' := by
  obtain ⟨hx, hb, hml, hown, hts, hlk, hK, hc1, hc2, hf1, hl1⟩ := C
  obtain ⟨L, st, S⟩ := f
  intro H locs ls cells slots hR kk
  unfold pm_last at hop
  split at hop
  · rename_i x i a st2 hst
    simp only at hst hop
    subst hst
    split at hop
    · cases hop
    · rename_i ha
      split at hop
      · rename_i n g hg
        split at hop
        · cases hop
        · rename_i hin
          cases hop
          rw [pm_get_hi ha] at hg
          have hat := pm_W_at (ad := pm_ad sa base) (base := base) (dA := dA) hg
          have e1 : pm_cv (pm_ad sa base) (.ref a) = .ref (base + (a - 8)) := by show Value.ref _ = _; rw [pm_ad_hi ha]
          have hc : H[base + (a - 8)]? = some (vp_cell (dA 1) (n, .inr (.inl g))) := hR.2.1 _ _ hat
          simp only [List.map_cons, e1]
          refine W.last hx hb hc ((hK.1.2 1 _ rfl).1 n (fun j => .long (g j))) (fun q => by cases q) (by show ¬ (i < 0 ∨ (arrV _ _ _).slots.size ≤ _); rw [arrV_size]; exact hin) rfl rfl hdg fun H1 e z oq => ?_
          refine kk _ _ _ _ _ (pm_R_set ha hR hg ?_ z oq)
          show H1[base + (a - 8)]? = some (vp_cell (dA 1) (n, .inr (.inl (vp_updL g i.toNatClampNeg x))))
          rw [e, vp_cell_l, vp_cell_l, arrV_store]
          congr 2
          funext q
          by_cases hq : q = i.toNatClampNeg
          · subst hq
            simp [updV, vp_updL]
          · simp [updV, vp_updL, hq]
      · cases hop
  · cases hop
theorem pm_s_aast (C : pm_C p R s m args meth c cc nL own sa base dC dI dA X n0 sl0 nf slf) (hdg : decode cc pc = .ok (.aastore, 1)) (hop : pm_aast X f = some f') : pm_Go p l e R s m args below meth c Q nL sa base dC dI dA n0 sl0 pc (pc + 1) f f' := by
  obtain ⟨hx, hb, hml, hown, hts, hlk, hK, hc1, hc2, hf1, hl1⟩ := C
  obtain ⟨L, st, S⟩ := f
  intro H locs ls cells slots hR kk
  unfold pm_aast at hop
  split at hop
  · rename_i v i a st2 hst
    simp only at hst hop
    subst hst
    split at hop
    · cases hop
    · rename_i hav
      have ha : ¬ a < 8 := fun z => hav (Or.inl z)
      have hv8 : ¬ v < 8 := fun z => hav (Or.inr z)
      split at hop
      · rename_i t n g ci fs hg hgv
        split at hop
        · rename_i ht
          split at hop
          · cases hop
          · rename_i hin
            cases hop
            rw [pm_get_hi ha] at hg
            rw [pm_get_hi hv8] at hgv
            have hat := pm_W_at (ad := pm_ad sa base) (base := base) (dA := dA) hg
            have hatv := pm_W_at (ad := pm_ad sa base) (base := base) (dA := dA) hgv
            have e1 : pm_cv (pm_ad sa base) (.ref a) = .ref (base + (a - 8)) := by show Value.ref _ = _; rw [pm_ad_hi ha]
            have e2 : pm_cv (pm_ad sa base) (.ref v) = .ref (base + (v - 8)) := by show Value.ref _ = _; rw [pm_ad_hi hv8]
            obtain ⟨r, hr1, hr2⟩ := pm_tys_at (dA := dA) ⟨ht.1, ht.2.1⟩
            rw [← ht.2.2] at hr1
            simp only [List.map_cons, e1, e2]
            have hlt : i.toNatClampNeg < n := Nat.not_le.mp fun q => hin (Or.inr q)
            have h0 : ¬ i < 0 := fun q => hin (Or.inl q)
            have hcA : H[base + (a - 8)]? = some (vp_cell (dA t) (n, .inr (.inr (.inr (.inr (fun j => (g j).map (pm_ad sa base))))))) := hR.2.1 _ _ hat
            obtain ⟨r', hr', cellV, g1, g2, g3, -⟩ := hR.2.1 _ _ hatv
            have hcls := (hK.1.1 ci r hr1).2
            obtain ⟨kA, comp, k1, k2, k3, -⟩ := (hK.1.2 t _ hr2).2
            have hcomp : comp = dC ci := Option.some.inj (k3.symm.trans hcls.1)
            subst hcomp
            obtain ⟨kC, hkC, -⟩ := hcls.2
            refine W.aast hx hb hcA (fun q h => by cases h) (fun h => by cases h) k1 k2 rfl hkC ⟨h0, by show _ < (arrV _ _ _).slots.size; rw [arrV_size]; exact hlt⟩ g1 (fun q h => by rw [g3] at h; cases h) (by rw [g2]; exact hkC) (by rw [g2]; exact va_assign hcls) rfl rfl hdg fun H1 e z oq => ?_
            refine kk _ _ _ _ _ (pm_R_set ha hR hg ?_ z oq)
            show H1[base + (a - 8)]? = some (vp_cell (dA t) (n, .inr (.inr (.inr (.inr (fun j => (va_up g i.toNatClampNeg (some v) j).map (pm_ad sa base)))))))
            rw [e, vp_cell_q, vp_cell_q, arrV_store]
            congr 2
            funext q
            by_cases hq : q = i.toNatClampNeg
            · subst hq
              simp [updV, va_up, va_rf, pm_ad_hi hv8]
            · simp [updV, va_up, hq]
        · cases hop
      · cases hop
  · cases hop
end PMH
