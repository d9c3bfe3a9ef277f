/-! the law's walk, with the two that catch -/
theorem gtoss_as {as : List Value} {S : pm_S} {t : pm_T} (h : gtoss as S = some t) : ∃ v, as = [.ref 8, .int v] := by
  unfold gtoss at h
  split at h
  · exact ⟨_, rfl⟩
  · cases h
theorem gel_as {as : List Value} {S : pm_S} {t : pm_T} (h : gel as S = some t) : ∃ v i, as = [.ref 8, .int v, .int i, .ref 203] := by
  unfold gel at h
  split at h
  · exact ⟨_, _, rfl⟩
  · cases h
noncomputable def PRg (X : pm_X) (k : Nat) : List Value → pm_S → Option pm_T := if k = pm_i_Desk_toss then gtoss else if k = pm_i_Law_element then gel else if k = 106 ∨ k = 161 then inip k else pm_run X pm_Ms PR0 100 k
noncomputable def PR1 (X : pm_X) : pm_P := fun k => some (PRg X k)
theorem run1 {X : pm_X} {k : Nat} {as : List Value} {S : pm_S} : pm_run X pm_Ms (PR1 X) 101 k as S = PRg X k as S := by
  conv => lhs; unfold pm_run
  show (if 16 ≤ 100 then PRg X k as S else none) = _
  rw [if_pos (by decide)]
theorem PRg_le {X : pm_X} {k : Nat} {as : List Value} {S : pm_S} {t : pm_T} (h : PRg X k as S = some t) : pm_le S t.2 := by
  unfold PRg at h
  split at h
  · obtain ⟨v, rfl⟩ := gtoss_as h; exact gtoss_le h
  · split at h
    · obtain ⟨v, i, rfl⟩ := gel_as h; exact gel_le h
    · split at h
      · exact inip_le h
      · exact run0_mono 100 _ _ _ _ h
theorem run1_mono {X : pm_X} (d : Nat) : pm_mf (pm_run X pm_Ms (PR1 X) d) := pm_m_run (fun mid g hg as S t h => by cases hg; exact PRg_le h) d
theorem gd_S {own : String} {idx : Nat} {y : MethodName} {w0 : Cond} (h1 : Cond.methodLink own idx y ∈ pm_tbl) (h2 : Cond.static y ∈ pm_tbl) (h4 : Cond.initialized y.cls ∈ pm_tbl) (h5 : w0 ∈ pm_tbl) : GoodIn pm_tbl (va_wsS own idx y (w0 :: pm_tbl)) := by
  intro w hw
  unfold va_wsS at hw
  rcases List.mem_append.mp hw with hw | hw
  · simp only [List.mem_cons, List.not_mem_nil, or_false] at hw
    rcases hw with rfl | rfl | rfl
    · exact pm_goodw h1
    · exact pm_goodw h2
    · exact pm_goodw h4
  · rcases List.mem_cons.mp hw with rfl | hw
    · exact pm_goodw h5
    · exact pm_goodw hw
section
variable {l : Launch} {p : Program} {e : Env} {R : Room} {s : State} {mm : MethodId} {args : Array Value} {below : List Frame} {meth : Method} {c : Code} {cc : ByteArray} {nL : Nat} {own : String} {sa : Nat → Nat} {base : Nat} {dC : Nat → ClassId} {dI : Nat → Nat → Nat} {dA : Nat → ClassId} {X : pm_X} {n0 sl0 nf slf : Nat}
theorem toss_CB1 (hl : l.stackTraces = false) (hK2 : pm_K2 base s) {as : List Value} {S : pm_S} {t : pm_T} (hg : gtoss as S = some t) : pm_CB1 p l e R s mm args below meth c cc nL own sa base dC dI dA X n0 sl0 nf slf 101 md_Desk_toss as S t := by
  obtain ⟨v, rfl⟩ := gtoss_as hg
  intro pc idx i L rest H locs ls cells slots C hfr hlo hR hsum hle hnf hsl hdg hkd hlk
  obtain ⟨hx, hb, hml, hown, hts, hlk0, hK, hc1, hc2, hf1, hl1⟩ := C
  obtain ⟨r1, r2, r3, r4, r5, r6⟩ := hR
  dsimp only at r3 r5 r6
  obtain ⟨sq, hS, -⟩ := gtoss_cases hg
  rcases hkd with ⟨rfl, z, -⟩ | ⟨rfl, hci, hnm, hrc, hlen⟩ | ⟨rfl, -, z, -⟩
  · exact absurd z (by decide)
  · have hlk : Cond.methodLink own idx yp_toss ∈ pm_tbl := by
      rcases hlk with h | h
      · exact h
      · exact absurd rfl (h.2 idx)
    have S0 : CallFix p mm c cc nL s args pm_tbl own := ⟨hx, hb, hml, hown, hts⟩
    obtain ⟨fs8, hrv⟩ : ∃ fs, pm_h S 8 (.inr (9, fs)) := by rw [hS]; exact ly_8.rcv sq
    have hat := pm_W_at (ad := pm_ad sa base) (base := base) (dA := dA) hrv.2
    have hrecv := va_recv hK.1 r2 (ci := 9) rfl hat
    have e8 : pm_cv (pm_ad sa base) (.ref 8) = .ref (base + (8 - 8)) := by show Value.ref _ = _; rw [pm_ad_hi (by omega)]
    have hcs : cells + (t.2.1.length - S.1.length) ≤ R.cells ∧ slots + (t.2.2 - S.2) ≤ R.slots := by
      have := hle.1; have := hle.2
      constructor <;> omega
    have hst : ([Value.ref 8, .int v].reverse ++ rest).map (pm_cv (pm_ad sa base)) = [Value.int v].reverse ++ .ref (base + (8 - 8)) :: rest.map (pm_cv (pm_ad sa base)) := by
      simp only [List.reverse_cons, List.reverse_nil, List.nil_append, List.cons_append, List.map_cons, e8]; rfl
    exact vx_runVW (As := [.int v]) S0 (toss_met (sa := sa) (base := base) (dC := dC) (dI := dI) (dA := dA) (X := X) hl hg (d := 10) (by decide)) (vx_cwVW 1 hts (gd_V hlk wp_toss_in wp_toss_sel wp_toss_ini wp_toss_code) rfl rfl rfl ⟨rfl, by decide, by decide, by decide +kernel⟩ ⟨by show 11 + 1 ≤ R.frames; omega, by show 8 + (6 + 11) + 64 * 11 ≤ R.locals; omega⟩) ⟨pm_blind2, hrecv, fun U hU hW => ⟨⟨by rw [List.map_cons, e8]; rfl, hK.to r4 hU hW, by rw [hU]; exact r2, by rw [hU]; exact r3⟩, hK2.to r4 hU hW⟩⟩ rfl rfl r1.2.1 hst (lv_room (by rw [pm_cv_sum]; exact hsum)) hdg hcs
  · exact absurd z (by decide)
theorem wrap_CB1 (hl : l.stackTraces = false) (hK2 : pm_K2 base s) {as : List Value} {S : pm_S} {t : pm_T} (hg : gel as S = some t) : pm_CB1 p l e R s mm args below meth c cc nL own sa base dC dI dA X n0 sl0 nf slf 101 md_Law_element as S t := by
  obtain ⟨v, i9, rfl⟩ := gel_as hg
  intro pc idx i L rest H locs ls cells slots C hfr hlo hR hsum hle hnf hsl hdg hkd hlk
  obtain ⟨hx, hb, hml, hown, hts, hlk0, hK, hc1, hc2, hf1, hl1⟩ := C
  obtain ⟨r1, r2, r3, r4, r5, r6⟩ := hR
  dsimp only at r3 r5 r6
  rcases hkd with ⟨rfl, -, hlen⟩ | ⟨rfl, z, -⟩ | ⟨rfl, -, z, -⟩
  · have hlk : Cond.methodLink own idx yp_wrap ∈ pm_tbl := by
      rcases hlk with h | h
      · exact h
      · exact absurd h.1 (fun z => by
          have := List.mem_map_of_mem (f := fun q : String × Nat × MethodName => q.2.2.cls) z
          revert this
          show ¬ "QuestionDeskLaw" ∈ _
          decide)
    have S0 : CallFix p mm c cc nL s args pm_tbl own := ⟨hx, hb, hml, hown, hts⟩
    have hcs : cells + (t.2.1.length - S.1.length) ≤ R.cells ∧ slots + (t.2.2 - S.2) ≤ R.slots := by
      have := hle.1; have := hle.2
      constructor <;> omega
    have hst : ([Value.ref 8, .int v, .int i9, .ref 203].reverse ++ rest).map (pm_cv (pm_ad sa base)) = ([Value.ref 8, .int v, .int i9, .ref 203].map (pm_cv (pm_ad sa base))).reverse ++ rest.map (pm_cv (pm_ad sa base)) := by
      rw [List.map_append, List.map_reverse]
    exact vx_runSW (As := [Value.ref 8, .int v, .int i9, .ref 203].map (pm_cv (pm_ad sa base))) S0 (wrap_met (sa := sa) (base := base) (dC := dC) (dI := dI) (dA := dA) (X := X) hl hg (d := 10) (by decide)) (vx_cwSW 4 hts (gd_S hlk wp_wrap_st wp_wrap_ini wp_wrap_code) rfl rfl rfl ⟨by decide, by decide, by decide +kernel⟩ ⟨by show 11 + 1 ≤ R.frames; omega, by show 8 + (5 + 11) + 64 * 11 ≤ R.locals; omega⟩) ⟨pm_blind2, fun U hU hW => ⟨⟨rfl, hK.to r4 hU hW, by rw [hU]; exact r2, by rw [hU]; exact r3⟩, hK2.to r4 hU hW⟩⟩ rfl rfl r1.2.1 hst (lv_room (by rw [pm_cv_sum]; exact hsum)) hdg hcs
  · exact absurd z (by decide)
  · exact absurd z (by decide)
theorem law_CB1 (hl : l.stackTraces = false) (hK2 : pm_K2 base s) (mid : Nat) (m9 : pm_M) (as : List Value) (S : pm_S) (t : pm_T) (hm : pm_Ms[mid]? = some m9) (h : pm_run X pm_Ms (PR1 X) 101 mid as S = some t) : pm_CB1 p l e R s mm args below meth c cc nL own sa base dC dI dA X n0 sl0 nf slf 101 m9 as S t := by
  rw [run1] at h
  unfold PRg at h
  split at h
  · rename_i e1
    subst e1
    have : m9 = md_Desk_toss := (Option.some.inj hm).symm
    subst this
    exact toss_CB1 hl hK2 h
  · split at h
    · rename_i e1
      subst e1
      have : m9 = md_Law_element := (Option.some.inj hm).symm
      subst this
      exact wrap_CB1 hl hK2 h
    · split at h
      · rename_i e1
        have hc : pm_CB l sa base dC dI dA X 60 m9 as S t := by
          rcases e1 with rfl | rfl
          · have : m9 = md_Desk_init := (Option.some.inj hm).symm
            subst this
            exact ini_CB hm rfl h
          · have : m9 = md_Model_init := (Option.some.inj hm).symm
            subst this
            exact ini_CB hm rfl h
        intro pc idx i L rest H locs ls cells slots C hfr hlo
        exact hc p e R s mm args below meth c cc nL own n0 sl0 nf slf pc idx i L rest H locs ls cells slots C (by omega) (by omega)
      · have hc := run0_CB (l := l) (sa := sa) (base := base) (dC := dC) (dI := dI) (dA := dA) hm h
        intro pc idx i L rest H locs ls cells slots C hfr hlo
        exact hc p e R s mm args below meth c cc nL own n0 sl0 nf slf pc idx i L rest H locs ls cells slots C (by omega) (by omega)
end
theorem not_flat {w : Cond} (h : (decide (w ∈ flatC (Jvm.Cond.and given_1 narrow_1))) = true) : w ∈ flatC (Jvm.Cond.and given_1 narrow_1) := of_decide_eq_true h
theorem str_of {args : Array Value} {s : State} {own tx : String} {k : Nat} (h1 : (Cond.stringRef own k tx).before args s = true) (h2 : (Cond.exactly (.string own k) "java/lang/String").before args s = true) : ∃ a, vk_R own k tx a s := by
  obtain ⟨a, c, cell, kk, h, -⟩ := Cond.exactly_spec h2
  exact ⟨a, vk_R.of h1 h⟩
theorem K2_start {p : Program} {s : State} {m : MethodId} {meth : Method} {c : Code} {b L : Nat} {xs : Nat → Int32} (C0 : lw_At p s m meth c b L xs) : pm_K2 s.heap.size s := by
  obtain ⟨hx, hb, hr, hml, hown, hts, hX, hbl, hlocks, hgv⟩ := C0
  have hflat := flat_of_before _ hgv
  have hA : ∀ a : Nat, a < s.heap.size → ¬ s.heap.size ≤ a := fun a h => Nat.not_le.mpr h
  have inl : ∀ w : Cond, decide (w ∈ lw_tbl) = true → w.before #[Value.ref b] s = true := fun w h => hts w (of_decide_eq_true h)
  refine ⟨vx_Zqof (inl _ (by decide +kernel)) (inl _ (by decide +kernel)) (hflat _ (not_flat (by decide +kernel))) hA, vx_Zqof (inl _ (by decide +kernel)) (inl _ (by decide +kernel)) (hflat _ (not_flat (by decide +kernel))) hA, va_Nc.of (hflat _ (not_flat (by decide +kernel))), va_Nc.of (hflat _ (not_flat (by decide +kernel))), fun w hw => va_tabs (wx_ot w hw) rfl (hts w (wx_in w hw)), str_of (inl _ (by decide +kernel)) (hflat _ (not_flat (by decide +kernel))), str_of (inl _ (by decide +kernel)) (hflat _ (not_flat (by decide +kernel))), str_of (inl _ (by decide +kernel)) (hflat _ (not_flat (by decide +kernel))), str_of (inl _ (by decide +kernel)) (hflat _ (not_flat (by decide +kernel))), str_of (inl _ (by decide +kernel)) (hflat _ (not_flat (by decide +kernel)))⟩
/-- the run of the law that is owed -/
def pm_Law1 (L : Nat) (xs : Nat → Int32) : Prop := ∃ (F : Nat) (S : pm_S), S.1.length ≤ 601024 ∧ S.2 ≤ 7293034 ∧ pm_go (pm_X0 L xs) pm_Ms (pm_run (pm_X0 L xs) pm_Ms (PR1 (pm_X0 L xs)) 101) ret cd_law F 0 ([some (.ref 0), none, none, none, none, none, none, none], [], ([], 0)) = some (some (.int 1), S)
theorem whole_start1 {p : Program} {e : Env} {s : State} {m : MethodId} {below : List Frame} {meth : Method} {c : Code} (l : Launch) (hl : l.stackTraces = false) {b L : Nat} {xs : Nat → Int32} (hlaw : pm_Law1 L xs) (C0 : lw_At p s m meth c b L xs) : W p l e room_1 s m #[Value.ref b] below meth c s.heap [] 0 0 (lw_Z below #[Value.ref b] s) (entryFrame m ([Value.ref b] : List Value).toArray 8) := by
  obtain ⟨sa, dC, dI, dA, hsa, hK⟩ := pm_start C0
  have hK2 := K2_start C0
  obtain ⟨hx, hb, hr, hml, hown, hts, hX, hbl, hlocks, hgv⟩ := C0
  obtain ⟨F, S, hS1, hS2, hgo⟩ := hlaw
  have hgood : ∀ w ∈ pm_tbl, w.before #[Value.ref b] s = true := fun w hw => hts w (List.mem_filter.mp hw).1
  have C : pm_C p room_1 s m #[Value.ref b] meth c code 8 "QuestionDeskLaw" sa s.heap.size dC dI dA (pm_X0 L xs) 0 0 S.1.length S.2 :=
    ⟨hx, hb, hml, hown, hgood, hlocks, hK, by show _ ≤ 0 + 601024; omega, by show _ ≤ 0 + 7293034; omega, by show 1 ≤ 2048; decide, by show 64 ≤ 84000; decide⟩
  have hent : pm_ent 8 [.ref 0] = some [some (.ref 0), none, none, none, none, none, none, none] := rfl
  obtain ⟨-, hLR⟩ := pm_ent_LR (ad := pm_ad sa s.heap.size) hent
  have e0 : ([Value.ref 0] : List Value).map (pm_cv (pm_ad sa s.heap.size)) = [Value.ref b] := by
    show [Value.ref (pm_ad sa s.heap.size 0)] = _
    rw [pm_ad_lo (by decide), hsa]
  rw [e0] at hLR
  rw [lg_entry_eq]
  refine pm_go_ok1 (sp := fun _ => false) (na := false) (d := 101) (tf := (some (.int 1), S)) (ini := false) C (fun h => by cases h) (by show 101 + 1 ≤ 2048; decide) (by show 64 * (101 + 1) ≤ 84000; decide) (run1_mono 101) (law_CB1 hl hK2) ?_ (fun b q hq _ => ⟨fun z => (by cases z), ck_law b q hq⟩) (fun b q f o hq z => (by cases z)) (Nat.le_refl _) (Nat.le_refl _) F 0 _ hgo (0, _) rfl s.heap [] _ 0 0 ⟨hLR, ?_, rfl, va_S.rf, rfl, rfl⟩
  · intro i pc f H locs ls cells slots hir _ hdg hR
    rcases hir with ⟨rfl, x, e1, e2, e3⟩ | ⟨rfl, x, e1, e2, e3⟩ | ⟨rfl, v, e1, e2, e3, e4⟩ | ⟨rfl, e1, e2, e3⟩
    · cases e3
      rw [e1]
      refine va_forget (fun q hq => hR.2.2.2.1.2.2 q hq) ?_
      have r5 := hR.2.2.2.2.1
      have r6 := hR.2.2.2.2.2
      refine W.widen (k := 601024) (n := 7293034) (by omega) (by omega) ?_
      exact lw_ret hx hb hr hlocks hdg
    · cases e3
    · cases e4
      cases e2
    · cases e3
  · intro k q hq
    simp [pm_W] at hq
