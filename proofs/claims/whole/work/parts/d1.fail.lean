/-! what the throws stand on; Member.fail: what it throws, where it returns -/
def PR0 : pm_P := fun k => if pm_skip k = true then some (fun _ _ => none) else none
theorem PR0_np : pm_np PR0 := fun k h => by unfold PR0; rw [h]; rfl
theorem PR0_none {k : Nat} (h : PR0 k = none) : pm_skip k = false := by
  unfold PR0 at h
  split at h
  · cases h
  · rename_i z; simpa using z
theorem PR0_some {k : Nat} {g : List Value → pm_S → Option pm_T} (h : PR0 k = some g) : g = fun _ _ => none := by
  unfold PR0 at h
  split at h
  · cases h; rfl
  · cases h
theorem run0_mono {X : pm_X} (d : Nat) : pm_mf (pm_run X pm_Ms PR0 d) := pm_m_run (fun mid g hg as S t h => by rw [PR0_some hg] at h; cases h) d
theorem run0_CB {l : Launch} {sa : Nat → Nat} {base : Nat} {dC : Nat → ClassId} {dI : Nat → Nat → Nat} {dA : Nat → ClassId} {X : pm_X} {d mid : Nat} {mm : pm_M} {as : List Value} {S : pm_S} {t : pm_T} (hm : pm_Ms[mid]? = some mm) (h : pm_run X pm_Ms PR0 d mid as S = some t) : pm_CB l sa base dC dI dA X d mm as S t :=
  pm_run_CB (fun mid mm h1 h2 => pm_ckall mid mm h1 (PR0_none h2)) (fun mid g hg as S t h => by rw [PR0_some hg] at h; cases h) (fun mid mm g _ hg d _ as S t h => by rw [PR0_some hg] at h; cases h) d mid mm as S t hm h
theorem wx_ot : ∀ w ∈ wx_B, w.onTables = true := by
  intro w hw
  simp only [wx_B, List.mem_cons, List.not_mem_nil, or_false] at hw
  rcases hw with rfl | rfl | rfl | rfl | rfl | rfl <;> rfl
theorem wx_moved {s U : State} (hvm : s.vm.Alike U.vm) : ∀ w ∈ wx_B, w.before #[] s = true → w.before #[] U = true := by
  intro w hw h
  simp only [wx_B, List.mem_cons, List.not_mem_nil, or_false] at hw
  rcases hw with rfl | rfl | rfl | rfl | rfl | rfl
  · exact va_tabs rfl (rfl : (s.setVm U.vm).vm = U.vm) (by rw [Cond.castable_setVm hvm]; exact h)
  · exact va_tabs rfl (rfl : (s.setVm U.vm).vm = U.vm) (by rw [Cond.castable_setVm hvm]; exact h)
  · exact va_tabs rfl (rfl : (s.setVm U.vm).vm = U.vm) (by rw [Cond.castable_setVm hvm]; exact h)
  · exact va_tabs rfl (rfl : (s.setVm U.vm).vm = U.vm) (by rw [Cond.declares_setVm hvm]; exact h)
  · exact va_tabs rfl (rfl : (s.setVm U.vm).vm = U.vm) (by rw [Cond.declares_setVm hvm]; exact h)
  · exact va_tabs rfl (rfl : (s.setVm U.vm).vm = U.vm) (by rw [Cond.declares_setVm hvm]; exact h)
abbrev nUO : String := "java/lang/UnsupportedOperationException"
abbrev nIS : String := "java/lang/IllegalStateException"
abbrev nIA : String := "java/lang/IllegalArgumentException"
/-- what a state must hold for the throws -/
def pm_K2 (base : Nat) (U : State) : Prop :=
  vx_Zq Bundle.tN "UNASSIGNED_STACK" Bundle.steD (fun a : Nat => base ≤ a) U U.heap ∧ vx_Zq Bundle.tN "SUPPRESSED_SENTINEL" Bundle.listD (fun a : Nat => base ≤ a) U U.heap ∧
  va_Nc nIS nUO U ∧ va_Nc nIS nIA U ∧ (∀ w ∈ wx_B, w.before #[] U = true) ∧
  (∃ a, vk_R "QuestionDesk$Member" 55 "bought" a U) ∧ (∃ a, vk_R "QuestionDesk$Member" 62 "failed" a U) ∧ (∃ a, vk_R "QuestionDesk" 349 "no such shelf" a U) ∧ (∃ a, vk_R "QuestionDesk" 356 "no row" a U) ∧ ∃ a, vk_R "QuestionDesk" 359 "no such place" a U
theorem pm_K2.to {base : Nat} {s U : State} {H : Heap} {locs : List Loc} (h : pm_K2 base s) (hS : va_S (fun q : Nat => base ≤ q) s.heap H locs) (hU : U.heap = H) (hW : s.WarmedH U.vm) : pm_K2 base U := by
  subst hU
  obtain ⟨h1, h2, h3, h4, h5, ⟨a1, h6⟩, ⟨a2, h7⟩, ⟨a3, h8⟩, ⟨a4, h9⟩, a5, h10⟩ := h
  exact ⟨vx_Zq.moved hW.alike (h1.kept hS.2.1), vx_Zq.moved hW.alike (h2.kept hS.2.1), va_Nc.moved hW.alike h3, va_Nc.moved hW.alike h4, fun w hw => wx_moved hW.alike w hw (h5 w hw), ⟨a1, vk_R.warm hW h6⟩, ⟨a2, vk_R.warm hW h7⟩, ⟨a3, vk_R.warm hW h8⟩, ⟨a4, vk_R.warm hW h9⟩, a5, vk_R.warm hW h10⟩
def pm_Pc2 (sa : Nat → Nat) (base : Nat) (dC : Nat → ClassId) (dI : Nat → Nat → Nat) (dA : Nat → ClassId) (X : pm_X) (as : List Value) (S : pm_S) : Array Value → State → Prop := fun v U => pm_Pc sa base dC dI dA X as S v U ∧ pm_K2 base U
theorem pm_blind2 {sa : Nat → Nat} {base : Nat} {dC : Nat → ClassId} {dI : Nat → Nat → Nat} {dA : Nat → ClassId} {X : pm_X} {as : List Value} {S : pm_S} : FrameBlind (pm_Pc2 sa base dC dI dA X as S) := by
  intro a U g mk q
  obtain ⟨q1, h1, h2, h3, h4, h5, ⟨a1, h6⟩, ⟨a2, h7⟩, ⟨a3, h8⟩, ⟨a4, h9⟩, a5, h10⟩ := q
  exact ⟨pm_blind _ _ _ _ q1, vx_Zq.moved (u := U) (U := U.calling g mk a) (Vm.Alike.refl U.vm) h1, vx_Zq.moved (u := U) (U := U.calling g mk a) (Vm.Alike.refl U.vm) h2, va_Nc.moved (u := U) (U := U.calling g mk a) (Vm.Alike.refl U.vm) h3, va_Nc.moved (u := U) (U := U.calling g mk a) (Vm.Alike.refl U.vm) h4, fun w hw => wx_moved (s := U) (U := U.calling g mk a) (Vm.Alike.refl U.vm) w hw (h5 w hw), ⟨a1, vk_R.same (u := U) (U := U.calling g mk a) rfl h6⟩, ⟨a2, vk_R.same (u := U) (U := U.calling g mk a) rfl h7⟩, ⟨a3, vk_R.same (u := U) (U := U.calling g mk a) rfl h8⟩, ⟨a4, vk_R.same (u := U) (U := U.calling g mk a) rfl h9⟩, a5, vk_R.same (u := U) (U := U.calling g mk a) rfl h10⟩
theorem at_of {args : Array Value} {s : State} {own cls : String} {ic : Nat} (h1 : ∀ w ∈ vx_atS own ic cls np_ex, w ∈ lw_tbl) (h2 : ∀ w ∈ (vx_atS own ic cls np_ex).filter (fun w => !goodWord w), w ∈ wx_B) (hts : ∀ w ∈ pm_tbl, w.before args s = true) (hB : ∀ w ∈ wx_B, w.before #[] s = true) : ∀ w ∈ vx_atS own ic cls np_ex, w.before args s = true :=
  vx_hat (B := wx_B) (fun w hw => hts w (List.mem_filter.mpr ⟨h1 w (List.mem_filter.mp hw).1, (List.mem_filter.mp hw).2⟩)) h2 (fun w hw => va_tabs (wx_ot w hw) rfl (hB w hw))
theorem np_fit : ∀ n ∈ np_ex, Bundle.fit n = true := fun n hn => List.all_eq_true.mp (by decide +kernel : np_ex.all Bundle.fit = true) n hn
theorem gd_of {own cls : String} {ik ic : Nat} (h : ∀ w ∈ vx_atS own ic cls np_ex, vx_ot w = true) : ∀ w ∈ Cond.classLink own ik cls :: Cond.initialized cls :: vx_atS own ic cls np_ex, vx_ot w = true := by
  intro w hw
  rcases List.mem_cons.mp hw with rfl | hw
  · rfl
  · rcases List.mem_cons.mp hw with rfl | hw
    · rfl
    · exact h w hw
/-- what is thrown, and the heap behind it -/
def pm_XC (sa : Nat → Nat) (base : Nat) (dC : Nat → ClassId) (dI : Nat → Nat → Nat) (dA : Nat → ClassId) (S : pm_S) (E : String) (ci : Nat) : String → State → State → Prop := fun E' st t => E' = E ∧ va_P (dC, dI) pm_cl (pm_W (pm_ad sa base) base dA (S.1 ++ [.inr (ci, [])])) t.heap ∧ t.heap.size = base + S.1.length + 1 ∧ va_F (fun q : Nat => base ≤ q) st t
/-- a call that throws -/
theorem run_thr {p : Program} {l : Launch} {e : Env} {R : Room} {s : State} {m : MethodId} {args : Array Value} {below : List Frame} {meth : Method} {c : Code} {H : Heap} {locs : List Loc} {cells slots mc ms pc base : Nat} {ls : Array Slot} {st0 rest : List Value} {Q : State → Prop} {Qa : State → Outcome → State → Prop} {XC : String → State → State → Prop}
    (hr : vx_Run p l e R s m args below meth c H locs cells slots mc ms (F0 m pc ls st0) rest Qa XC (fun q : Nat => base ≤ q)) (hno : ∀ st v t, ¬ Qa st (.returned v) t) (hX : ∀ E st t, XC E st t → va_F (fun q : Nat => base ≤ q) st t) (hS : va_S (fun q : Nat => base ≤ q) s.heap H locs)
    (kk : ∀ (E : String) (ce : Cell) (q9 : Addr) (st t : State) (locs1 : List Loc), XC E st t → va_S (fun q : Nat => base ≤ q) s.heap t.heap locs1 → t.heap[q9]? = some ce → ce.vm = .none → s.vm.findClass E = some ce.cls → vx_W p l e R s m args below meth c t.heap locs1 (cells + mc) (slots + ms) Q (F0 m pc ls rest) q9) : W p l e R s m args below meth c H locs cells slots Q (F0 m pc ls st0) := by
  intro T hT X
  rcases hr T hT X with ⟨v, st₀, t, T', L, h0, X', hL, e1, e2, hq, st⟩ | ⟨q, st₀, t, T', L, E, ce, h0, X', hL, e1, e2, hx, hce, hcv, hcl, st⟩
  · exact absurd hq (hno _ _ _)
  · obtain ⟨k1, k2, k3⟩ := vx_keep h0 e1 hS (fun _ _ h => h) (fun _ h => h) hL (hX _ _ _ hx)
    obtain ⟨t2, a1, b1⟩ := kk E ce q st₀ t (locs ++ L) hx (by rw [← e1]; exact k3) hce hcv hcl T' e1 X'
    exact ⟨t2, st.trans a1, b1⟩
theorem LR_any {ad : Nat → Nat} {nL i : Nat} {L : List (Option Value)} {ls ls' : Array Slot} {w : Value} (h : pm_LR ad nL L ls) (hi : ∀ v, L[i]? ≠ some (some v)) (hp : ∀ j v, j + 1 = i → L[j]? = some (some v) → v.category ≠ 2) (h' : lv_has ls' nL ((i, w) :: (pm_pairs ad L).filter (fun q => !(q.1 == i) && !(q.1 + 1 == i && q.2.category == 2)))) : pm_LR ad nL L ls' := by
  refine ⟨h.1, h'.1, h'.2.1, fun j v hj => h'.2.2 (j, pm_cv ad v) (List.mem_cons_of_mem _ (List.mem_filter.mpr ⟨pm_pairs_mem.mpr ⟨v, hj, rfl⟩, ?_⟩))⟩
  have e1 : (j == i) = false := by
    simp only [beq_eq_false_iff_ne]
    intro z
    subst z
    exact hi v hj
  simp only [pm_cv_cat, e1]
  simp only [Bool.not_false, Bool.true_and, Bool.not_eq_true', Bool.and_eq_false_iff, beq_eq_false_iff_ne]
  by_cases z : j + 1 = i
  · exact Or.inr (hp j v z hj)
  · exact Or.inl z
section
variable {X : pm_X} {cf : Nat → List Value → pm_S → Option pm_T} {S : pm_S} {a : Nat} {fs : List Value} {kd vo : Int32}
theorem fail_runT (hS : pm_h S a (.inr (3, fs))) (hk : fs[1]? = some (.int kd)) (hv : fs[2]? = some (.int vo)) {k : Nat} (hE : (kd = 4 ∧ k = 1) ∨ (kd ≠ 4 ∧ kd ≠ 3 ∧ ¬ (kd = 5 ∧ vo = 1) ∧ k = 2)) : pm_to X pm_Ms cf (some (.object "x")) cp_fail 0 ([some (.ref a)], [], S) (some (.ref k), S) := by
  refine pm_to.blk (pc := 0) rfl (pe_aload rfl (pe_getf hS rfl hk (pe_iconst (v := 4) rfl (pe_icmp_ne (tgt := 2) (nx := 1) rfl rfl (fun z => ?_) (fun z => ?_)))))
  · rcases hE with ⟨h, _⟩ | ⟨h4, h3, h5, rfl⟩
    · exact absurd h z
    · refine pm_to.blk (pc := 18) rfl (pe_aload rfl (pe_getf hS rfl hk (pe_iconst (v := 3) rfl (pe_icmp_eq (tgt := 5) (nx := 3) rfl rfl (fun z => absurd z h3) (fun _ => ?_)))))
      have fin : pm_to X pm_Ms cf (some (.object "x")) cp_fail 6 ([some (.ref a)], [], S) (some (.ref 2), S) := pm_to.blk (pc := 43) rfl (pe_gets (pe_aret ⟨rfl, rfl⟩ rfl))
      refine pm_to.blk (pc := 26) rfl (pe_aload rfl (pe_getf hS rfl hk (pe_iconst (v := 5) rfl (pe_icmp_ne (tgt := 6) (nx := 4) rfl rfl (fun _ => fin) (fun z5 => ?_)))))
      exact pm_to.blk (pc := 34) rfl (pe_aload rfl (pe_getf hS rfl hv (pe_iconst (v := 1) rfl (pe_icmp_ne (tgt := 6) (nx := 5) rfl rfl (fun _ => fin) (fun z1 => absurd ⟨Classical.not_not.mp z5, Classical.not_not.mp z1⟩ h5)))))
  · rcases hE with ⟨h, rfl⟩ | ⟨h4, _⟩
    · exact pm_to.blk (pc := 8) rfl (pe_gets (pe_aret ⟨rfl, rfl⟩ rfl))
    · exact absurd (Classical.not_not.mp z) h4
theorem fail_runR (hS : pm_h S a (.inr (3, fs))) (hk : fs[1]? = some (.int kd)) (hv : fs[2]? = some (.int vo)) (hE : kd = 3 ∨ (kd = 5 ∧ vo = 1)) : pm_to X pm_Ms cf none cpr_fail 0 ([some (.ref a)], [], S) (none, S) := by
  have h4 : kd ≠ 4 := by rcases hE with h | ⟨h, _⟩ <;> (rw [h]; decide)
  have fin : pm_to X pm_Ms cf none cpr_fail 5 ([some (.ref a)], [], S) (none, S) := pm_to.blk (pc := 42) rfl (pe_ret rfl rfl)
  refine pm_to.blk (pc := 0) rfl (pe_aload rfl (pe_getf hS rfl hk (pe_iconst (v := 4) rfl (pe_icmp_ne (tgt := 2) (nx := 1) rfl rfl (fun _ => ?_) (fun z => absurd (Classical.not_not.mp z) h4)))))
  refine pm_to.blk (pc := 18) rfl (pe_aload rfl (pe_getf hS rfl hk (pe_iconst (v := 3) rfl (pe_icmp_eq (tgt := 5) (nx := 3) rfl rfl (fun _ => fin) (fun z3 => ?_)))))
  rcases hE with h | ⟨h5, h1⟩
  · exact absurd h z3
  · refine pm_to.blk (pc := 26) rfl (pe_aload rfl (pe_getf hS rfl hk (pe_iconst (v := 5) rfl (pe_icmp_ne (tgt := 6) (nx := 4) rfl rfl (fun z => absurd h5 z) (fun _ => ?_)))))
    exact pm_to.blk (pc := 34) rfl (pe_aload rfl (pe_getf hS rfl hv (pe_iconst (v := 1) rfl (pe_icmp_ne (tgt := 6) (nx := 5) rfl rfl (fun z => absurd h1 z) (fun _ => fin)))))
end
section
variable {l : Launch} {sa : Nat → Nat} {base : Nat} {dC : Nat → ClassId} {dI : Nat → Nat → Nat} {dA : Nat → ClassId} {X : pm_X} {S : pm_S} {a : Nat} {fs : List Value} {kd vo : Int32}
theorem fail_CB (hS : pm_h S a (.inr (3, fs))) (hk : fs[1]? = some (.int kd)) (hv : fs[2]? = some (.int vo)) (hE : kd = 3 ∨ (kd = 5 ∧ vo = 1)) (d : Nat) : pm_CB l sa base dC dI dA X (d + 1) md_failr [.ref a] S (none, S) := by
  obtain ⟨F, hF⟩ := fail_runR (X := X) (cf := pm_run X pm_Ms PR0 d) hS hk hv hE
  exact pm_CB_of ck_failr.1 (pm_met ck_failr.1 ck_failr.2 (run0_mono d) (fun mid mm as S t hm h => run0_CB hm h) rfl hF)
theorem fail_thr (hl : l.stackTraces = false) (hS : pm_h S a (.inr (3, fs))) (hk : fs[1]? = some (.int kd)) (hv : fs[2]? = some (.int vo)) {E : String} {ci : Nat} (hE : (kd = 4 ∧ E = nUO ∧ ci = 13) ∨ (kd ≠ 4 ∧ kd ≠ 3 ∧ ¬ (kd = 5 ∧ vo = 1) ∧ E = nIS ∧ ci = 12)) {d : Nat} (hd : 8 ≤ d) : vx_Met l yp_fail (Cond.code yp_fail bp_fail 1 none :: pm_tbl) (pm_rm d 1 6) (pm_Pc2 sa base dC dI dA X [.ref a] S) (fun _ _ _ _ => False) (pm_XC sa base dC dI dA S E ci) 1 6 (fun q : Nat => base ≤ q) := by
  obtain ⟨k, hk2, hk3⟩ : ∃ k : Nat, ((kd = 4 ∧ k = 1) ∨ (kd ≠ 4 ∧ kd ≠ 3 ∧ ¬ (kd = 5 ∧ vo = 1) ∧ k = 2)) ∧ ((k = 1 ∧ E = nUO ∧ ci = 13) ∨ (k = 2 ∧ E = nIS ∧ ci = 12)) := by
    rcases hE with ⟨h1, h2⟩ | ⟨h1, h2, h3, h4⟩
    · exact ⟨1, Or.inl ⟨h1, rfl⟩, Or.inl ⟨rfl, h2⟩⟩
    · exact ⟨2, Or.inr ⟨h1, h2, h3, rfl⟩, Or.inr ⟨rfl, h4⟩⟩
  obtain ⟨F, hF⟩ := fail_runT (X := X) (cf := pm_run X pm_Ms PR0 0) hS hk hv hk2
  refine vx_ofW (cc := bp_fail) (maxL := 1) (ret := none) (by decide +kernel) rfl ?_
  intro p e s m args below meth c s₁ B hml hnt hPc
  obtain ⟨⟨rfl, hK, hP, hsz⟩, hK2⟩ := hPc
  have hx := B.exec
  have hb := B.bytes
  have hts := atoms_spec (ws := Cond.code yp_fail bp_fail 1 none :: pm_tbl) B.pre
  have hts2 : ∀ w ∈ pm_tbl, w.before (([Value.ref a]).map (pm_cv (pm_ad sa base))).toArray s = true := fun w hw => hts w (List.mem_cons_of_mem _ hw)
  have hown : s.vm.findClass "QuestionDesk$Member" = some m.cls := findClass_of_methodNamed B.named
  have hlocks := B.notSynchronized
  have C : pm_C p (pm_rm d 1 6) s m (([Value.ref a]).map (pm_cv (pm_ad sa base))).toArray meth c bp_fail 1 "QuestionDesk$Member" sa base dC dI dA X S.1.length S.2 S.1.length S.2 :=
    ⟨hx, hb, hml, hown, hts2, hlocks, hK, by omega, by omega, by show 1 ≤ d; omega, by show 64 ≤ 64 * d; omega⟩
  obtain ⟨hlen, hLR⟩ := pm_ent_LR (ad := pm_ad sa base) (n := 1) (as := [Value.ref a]) (L := [some (.ref a)]) rfl
  rw [lg_entry_eq]
  refine pm_go_ok1 (sp := sp_fail) (na := true) (d := 0) (ini := false) (tf := (some (.ref k), S)) C (fun h => by cases h) (by show 0 + 1 ≤ d; omega) (by show 64 * (0 + 1) ≤ 64 * d; omega) (run0_mono 0) (fun mid mm as S t hm h => (run0_CB hm h).one) ?_ kp_fail ?_ (Nat.le_refl _) (Nat.le_refl _) F 0 _ hF (0, _) rfl s.heap [] _ 0 0 ⟨hLR, hP, hsz, va_S.rf, rfl, rfl⟩
  · intro i pc f H locs ls cells slots hir hna hdg hR
    rcases hir with ⟨rfl, x, e1, e2, e3⟩ | ⟨rfl, x, e1, e2, e3⟩ | ⟨rfl, v, e1, e2, e3, e4⟩ | ⟨rfl, e1, e2, e3⟩
    · cases e3
    · cases e3
    · exact absurd rfl (hna rfl)
    · cases e3
  · intro b q f o hq hsp hex
    have hb2 : b = 1 ∨ b = 6 := by simpa [sp_fail] using hsp
    have fin : ∀ (H : Heap) (locs : List Loc) (ls : Array Slot) (cells slots : Nat) (L : List (Option Value)), k = (if b = 1 then 1 else 2) → pm_R sa base dC dI dA s 1 S.1.length S.2 (L, [], S) H locs ls cells slots → W p l e (pm_rm d 1 6) s m (([Value.ref a]).map (pm_cv (pm_ad sa base))).toArray below meth c H locs cells slots (vx_MQ below (fun _ _ _ _ => False) (pm_XC sa base dC dI dA S E ci) (([Value.ref a]).map (pm_cv (pm_ad sa base))).toArray s 1 6 (fun q : Nat => base ≤ q)) (F0 m (if b = 1 then 8 else 43) ls []) := by
      intro H locs ls cells slots L hkb hR
      obtain ⟨r1, r2, r3, r4, r5, r6⟩ := hR
      dsimp only at r2 r3 r5 r6
      have hc0 : cells = 0 := by omega
      have hs0 : slots = 0 := by omega
      subst hc0; subst hs0
      have hsize : ls.size = c.maxLocals := by rw [hml]; exact r1.2.1
      have after : ∀ (pc : Nat) (H1 : Heap), decode bp_fail pc = .ok (.athrow, 1) → H1.size = H.size + 1 → va_P (dC, dI) pm_cl (pm_W (pm_ad sa base) base dA S.1 ++ [(H.size, .inr (ci, []))]) H1 → va_S (fun q : Nat => base ≤ q) s.heap H1 locs → (∃ r : vw_C, pm_cl[ci]? = some r ∧ r.1 = E) → W p l e (pm_rm d 1 6) s m (([Value.ref a]).map (pm_cv (pm_ad sa base))).toArray below meth c H1 locs (0 + 1) (0 + 6) (vx_MQ below (fun _ _ _ _ => False) (pm_XC sa base dC dI dA S E ci) (([Value.ref a]).map (pm_cv (pm_ad sa base))).toArray s 1 6 (fun q : Nat => base ≤ q)) (F0 m pc ls [.ref H.size]) := by
        intro pc H1 hdg h1 h2 h3 hr
        obtain ⟨r, hr, hrE⟩ := hr
        have hP1 := h2
        rw [show (pm_W (pm_ad sa base) base dA S.1 ++ [(H.size, .inr (ci, []))]) = pm_W (pm_ad sa base) base dA (S.1 ++ [.inr (ci, [])]) by rw [r3]; exact pm_W_push (e := .inr (ci, []))] at hP1
        obtain ⟨r', hr', ce, hce, hcl, hvm, -⟩ := h2 S.1.length (H.size, .inr (ci, [])) (by rw [List.getElem?_append_right (by rw [pm_W_len]; exact Nat.le_refl _), pm_W_len, Nat.sub_self]; rfl)
        have hfc := (hK.1.1 ci r hr).2.1
        rw [hrE] at hfc
        exact vx_athrow hx hb hdg (vx_out (fun x hx => (hnt x hx).elim) hlocks hce hvm (by rw [hcl]; exact hfc) (fun t ht hA => ⟨rfl, by rw [ht]; exact hP1, by rw [ht, h1, r3], h3.F ht⟩) h3.2.2 (Nat.le_refl _) (Nat.le_refl _))
      obtain ⟨k1, k2, k3, k4, k5, ⟨a1, k6⟩, ⟨a2, k7⟩, -⟩ := hK2
      by_cases hb1 : b = 1
      · rw [if_pos hb1] at hkb ⊢
        obtain ⟨rfl, rfl⟩ : E = nUO ∧ ci = 13 := by
          rcases hk3 with h | h
          · exact h.2
          · omega
        refine vz_makeS hx hb hl hown (ci := 13) (names := np_ex) (cls := nUO) (by decide +kernel) np_fit (hts2 _ wp_l3) (hts2 _ wp_ic1) k6 (at_of wp_a1 wp_ga1 hts2 k5) (gd_of wp_oa1) k1 k2 r4 hsize (by decide +kernel) (by decide +kernel) (by decide +kernel) (by decide +kernel) hK.1 r2 (T0 := TX0) rfl (by show 2 + 3 < d; omega) (by show 0 + (13 * (2 + 1) + 43) ≤ 64 * d; omega) (by show 0 + 1 ≤ 1; omega) (by show 0 + 6 ≤ 6; omega) ?_
        exact fun H1 h1 h2 h3 => after 17 H1 (by decide +kernel) h1 h2 h3 ⟨_, rfl, rfl⟩
      · rw [if_neg hb1] at hkb ⊢
        obtain ⟨rfl, rfl⟩ : E = nIS ∧ ci = 12 := by
          rcases hk3 with h | h
          · omega
          · exact h.2
        refine vz_makeS hx hb hl hown (ci := 12) (names := np_ex) (cls := nIS) (by decide +kernel) np_fit (hts2 _ wp_l4) (hts2 _ wp_ic2) k7 (at_of wp_a2 wp_ga2 hts2 k5) (gd_of wp_oa2) k1 k2 r4 hsize (by decide +kernel) (by decide +kernel) (by decide +kernel) (by decide +kernel) hK.1 r2 (T0 := TX0) rfl (by show 2 + 3 < d; omega) (by show 0 + (13 * (2 + 1) + 43) ≤ 64 * d; omega) (by show 0 + 1 ≤ 1; omega) (by show 0 + 6 ≤ 6; omega) ?_
        exact fun H1 h1 h2 h3 => after 52 H1 (by decide +kernel) h1 h2 h3 ⟨_, rfl, rfl⟩
    have exq : ∀ (n : Nat) (f : pm_F) (o : pm_O), pm_ex X pm_Ms (pm_run X pm_Ms PR0 0) (some (.object "x")) b [.getstatic n, .areturn] f = some o → f.2.1 = [] ∧ o = .inr (some (.ref n), f.2.2) := by
      intro n f o h
      obtain ⟨L, st, S1⟩ := f
      cases st with
      | nil => cases h; exact ⟨rfl, rfl⟩
      | cons v st => cases h
    rcases hb2 with rfl | rfl
    · cases hq
      obtain ⟨e1, e2⟩ := exq 1 f o hex
      refine ⟨fun g hg => (by rw [e2] at hg; cases hg), fun ho H locs ls cells slots hR => ?_⟩
      rw [e2] at ho
      obtain ⟨L, st, S1⟩ := f
      cases ho
      cases e1
      exact fin H locs ls cells slots L rfl hR
    · cases hq
      obtain ⟨e1, e2⟩ := exq 2 f o hex
      refine ⟨fun g hg => (by rw [e2] at hg; cases hg), fun ho H locs ls cells slots hR => ?_⟩
      rw [e2] at ho
      obtain ⟨L, st, S1⟩ := f
      cases ho
      cases e1
      exact fin H locs ls cells slots L rfl hR
end
