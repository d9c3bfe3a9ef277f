/-! a method's walk, its callees' contracts at this very call (follows 13.main, 14.met) -/
def pm_CB1 (p : Program) (l : Launch) (e : Env) (R : Room) (s : State) (mm : MethodId) (args : Array Value) (below : List Frame) (meth : Method) (c : Code) (cc : ByteArray) (nL : Nat) (own : String) (sa : Nat → Nat) (base : Nat) (dC : Nat → ClassId) (dI : Nat → Nat → Nat) (dA : Nat → ClassId) (X : pm_X) (n0 sl0 nf slf : Nat) (d : Nat) (m : pm_M) (as : List Value) (S : pm_S) (t : pm_T) : Prop :=
  ∀ (pc idx : Nat) (i : Instr) (L : List (Option Value)) (rest : List Value) (H : Heap) (locs : List Loc) (ls : Array Slot) (cells slots : Nat),
    pm_C p R s mm args meth c cc nL own sa base dC dI dA X n0 sl0 nf slf → d + 1 ≤ R.frames → 64 * (d + 1) ≤ R.locals →
    pm_R sa base dC dI dA s nL n0 sl0 (L, as.reverse ++ rest, S) H locs ls cells slots → (rest.map fun v => v.category).sum ≤ 8 → pm_le S t.2 → t.2.1.length ≤ nf → t.2.2 ≤ slf →
    decode cc pc = .ok (i, 3) → pm_kd X m i idx as S → (Cond.methodLink own idx m.1.1 ∈ pm_tbl ∨ ((own, idx, m.1.1) ∈ pm_nwm ∧ ∀ k, i ≠ .invokevirtual k)) →
    va_Run p l e R s mm args below meth c H locs cells slots (t.2.1.length - S.1.length) (t.2.2 - S.2) (F0 mm pc ls ((as.reverse ++ rest).map (pm_cv (pm_ad sa base)))) (rest.map (pm_cv (pm_ad sa base))) (pm_Post sa base dC dI dA t) (fun q : Nat => base ≤ q)
theorem pm_CB.one {l : Launch} {sa : Nat → Nat} {base : Nat} {dC : Nat → ClassId} {dI : Nat → Nat → Nat} {dA : Nat → ClassId} {X : pm_X} {d : Nat} {m : pm_M} {as : List Value} {S : pm_S} {t : pm_T} (h : pm_CB l sa base dC dI dA X d m as S t) {p : Program} {e : Env} {R : Room} {s : State} {mm : MethodId} {args : Array Value} {below : List Frame} {meth : Method} {c : Code} {cc : ByteArray} {nL : Nat} {own : String} {n0 sl0 nf slf : Nat} : pm_CB1 p l e R s mm args below meth c cc nL own sa base dC dI dA X n0 sl0 nf slf d m as S t := fun pc idx i L rest H locs ls cells slots => h p e R s mm args below meth c cc nL own n0 sl0 nf slf pc idx i L rest H locs ls cells slots
section PMM1
variable {p : Program} {l : Launch} {e : Env} {R : Room} {s : State} {m : MethodId} {args : Array Value} {below : List Frame} {meth : Method} {c : Code} {Q : State → Prop} {cc : ByteArray} {nL : Nat} {own : String} {sa : Nat → Nat} {base : Nat} {dC : Nat → ClassId} {dI : Nat → Nat → Nat} {dA : Nat → ClassId} {X : pm_X} {n0 sl0 nf slf : Nat}
set_option maxHeartbeats 4000000 in
theorem pm_ex_ok1 {M : List pm_M} {cf : Nat → List Value → pm_S → Option pm_T} {ret : Option FieldType} {code : List (Nat × List Instr)} {b d : Nat} {ini na : Bool} {tf : pm_T} (C : pm_C p R s m args meth c cc nL own sa base dC dI dA X n0 sl0 nf slf) (hini : ini = true → meth.name = "<init>") (hfr : d + 1 ≤ R.frames) (hlo : 64 * (d + 1) ≤ R.locals) (hcf : pm_mf cf)
    (hcall : ∀ (mid : Nat) (mm : pm_M) (as : List Value) (S : pm_S) (t : pm_T), M[mid]? = some mm → cf mid as S = some t → pm_CB1 p l e R s m args below meth c cc nL own sa base dC dI dA X n0 sl0 nf slf d mm as S t)
    (hret : ∀ (i : Instr) (pc : Nat) (f : pm_F) (H : Heap) (locs : List Loc) (ls : Array Slot) (cells slots : Nat), pm_isRet ret i f tf → (na = true → i ≠ .areturn) → decode cc pc = .ok (i, 1) → pm_R sa base dC dI dA s nL n0 sl0 f H locs ls cells slots → W p l e R s m args below meth c H locs cells slots Q (F0 m pc ls (f.2.1.map (pm_cv (pm_ad sa base))))) :
    ∀ (ops : List Instr) (hs : List Nat) (pc : Nat) (f : pm_F) (o : pm_O), (na = true → Instr.areturn ∉ ops) → pm_bk cc own ini M code b pc ops hs = true → pm_ex X M cf ret b ops f = some o → (pm_oS o).1.length ≤ nf → (pm_oS o).2 ≤ slf →
      (∀ (b' : Nat) (f' : pm_F), o = .inl (b', f') → ∀ q, code[b']? = some q → ∀ (H1 : Heap) (locs1 : List Loc) (ls1 : Array Slot) (cells1 slots1 : Nat), pm_R sa base dC dI dA s nL n0 sl0 f' H1 locs1 ls1 cells1 slots1 → W p l e R s m args below meth c H1 locs1 cells1 slots1 Q (F0 m q.1 ls1 (f'.2.1.map (pm_cv (pm_ad sa base))))) →
      (∀ t, o = .inr t → t = tf) →
      ∀ (H : Heap) (locs : List Loc) (ls : Array Slot) (cells slots : Nat), pm_R sa base dC dI dA s nL n0 sl0 f H locs ls cells slots → W p l e R s m args below meth c H locs cells slots Q (F0 m pc ls (f.2.1.map (pm_cv (pm_ad sa base)))) := by
  intro ops
  induction ops with
  | nil =>
    intro hs pc f o hna hbk hex h1 h2 k1 k2 H locs ls cells slots hR
    unfold pm_ex at hex
    unfold pm_bk at hbk
    cases hex
    obtain ⟨q, hq, rfl⟩ := pm_ft_at hbk
    exact k1 _ _ rfl q hq _ _ _ _ _ hR
  | cons op ops ih =>
    intro hs pc f o hna hbk hex h1 h2 k1 k2 H locs ls cells slots hR
    have hna9 : na = true → Instr.areturn ∉ ops := fun z z2 => hna z (List.mem_cons_of_mem _ z2)
    cases hd : decode cc pc with
    | error er =>
      unfold pm_bk at hbk
      rw [hd] at hbk
      cases hbk
    | ok il =>
      obtain ⟨i, len⟩ := il
      cases hct : pm_ctl op with
      | false =>
        rw [pm_ex_def hct] at hex
        rw [pm_bk_def hct hd] at hbk
        simp only [Bool.and_eq_true] at hbk
        split at hex
        · rename_i f' hf
          have hm := pm_m_ex hcf _ _ _ hex
          exact pm_op_ok C hini hbk.1 hd hf ⟨Nat.le_trans hm.1 h1, Nat.le_trans hm.2 h2⟩ H locs ls cells slots hR (fun H1 locs1 ls1 cells1 slots1 hR1 => ih _ _ _ _ hna9 hbk.2 hex h1 h2 k1 k2 _ _ _ _ _ hR1)
        · cases hex
      | true =>
        obtain ⟨L, st, S⟩ := f
        obtain ⟨hx, hb, hml, hown, hts, hlk, hK, hc1, hc2, hf1, hl1⟩ := id C
        cases op
        case athrow =>
          simp only [pm_ex, pm_op] at hex
          cases hex
        case goto t =>
          simp only [pm_bk, hd] at hbk
          simp only [pm_ex] at hex
          cases hex
          split at hbk
          · rename_i off
            simp only [Bool.and_eq_true, decide_eq_true_eq] at hbk
            obtain ⟨hb1, rfl⟩ := hbk
            obtain ⟨q, hq1, hq2⟩ := pm_tg_at hb1
            exact lv_goto hx hb hd hq2 (k1 _ _ rfl q hq1 _ _ _ _ _ hR)
          · cases hbk
        case ifCond cn t =>
          simp only [pm_bk, hd] at hbk
          simp only [pm_ex] at hex
          split at hbk
          · rename_i c' off
            simp only [Bool.and_eq_true, decide_eq_true_eq] at hbk
            obtain ⟨rfl, hb1, hb2, rfl⟩ := hbk
            obtain ⟨q, hq1, hq2⟩ := pm_tg_at hb1
            obtain ⟨q', hq3, hq4⟩ := pm_ft_at hb2
            split at hex
            · rename_i x st2
              have kt : pm_cond cn x 0 = true → W p l e R s m args below meth c H locs cells slots Q (F0 m q.1 ls (st2.map (pm_cv (pm_ad sa base)))) := fun z => by
                rw [if_pos z] at hex; cases hex
                exact k1 _ _ rfl q hq1 _ _ _ _ _ hR
              have kf : ¬ pm_cond cn x 0 = true → W p l e R s m args below meth c H locs cells slots Q (F0 m (pc + 3) ls (st2.map (pm_cv (pm_ad sa base)))) := fun z => by
                rw [if_neg z] at hex; cases hex
                rw [← hq4]
                exact k1 _ _ rfl q' hq3 _ _ _ _ _ hR
              cases cn
              · exact lv_if_eq hx hb hd hq2 (fun z => kt (by simp [pm_cond, z])) (fun z => kf (by simp [pm_cond, z]))
              · exact lv_if_ne hx hb hd hq2 (fun z => kt (by simp [pm_cond, z])) (fun z => kf (by simp [pm_cond]; simpa using z))
              · exact lv_if_lt hx hb hd hq2 (fun z => kt (by simp [pm_cond, z])) (fun z => kf (by simp [pm_cond]; simpa using z))
              · exact lv_if_ge hx hb hd hq2 (fun z => kt (by simp [pm_cond, z])) (fun z => kf (by simp [pm_cond]; simpa using z))
              · exact lv_if_gt hx hb hd hq2 (fun z => kt (by simp [pm_cond, z])) (fun z => kf (by simp [pm_cond]; simpa using z))
              · exact lv_if_le hx hb hd hq2 (fun z => kt (by simp [pm_cond, z])) (fun z => kf (by simp [pm_cond]; simpa using z))
            · cases hex
          · cases hbk
        case if_icmp cn t =>
          simp only [pm_bk, hd] at hbk
          simp only [pm_ex] at hex
          split at hbk
          · rename_i c' off
            simp only [Bool.and_eq_true, decide_eq_true_eq] at hbk
            obtain ⟨rfl, hb1, hb2, rfl⟩ := hbk
            obtain ⟨q, hq1, hq2⟩ := pm_tg_at hb1
            obtain ⟨q', hq3, hq4⟩ := pm_ft_at hb2
            split at hex
            · rename_i y x st2
              have kt : pm_cond cn x y = true → W p l e R s m args below meth c H locs cells slots Q (F0 m q.1 ls (st2.map (pm_cv (pm_ad sa base)))) := fun z => by
                rw [if_pos z] at hex; cases hex
                exact k1 _ _ rfl q hq1 _ _ _ _ _ hR
              have kf : ¬ pm_cond cn x y = true → W p l e R s m args below meth c H locs cells slots Q (F0 m (pc + 3) ls (st2.map (pm_cv (pm_ad sa base)))) := fun z => by
                rw [if_neg z] at hex; cases hex
                rw [← hq4]
                exact k1 _ _ rfl q' hq3 _ _ _ _ _ hR
              cases cn
              · exact lv_icmp_eq hx hb hd hq2 (fun z => kt (by simp [pm_cond, z])) (fun z => kf (by simp [pm_cond, z]))
              · exact lv_icmp_ne hx hb hd hq2 (fun z => kt (by simp [pm_cond, z])) (fun z => kf (by simp [pm_cond]; simpa using z))
              · exact lv_icmp_lt hx hb hd hq2 (fun z => kt (by simp [pm_cond, z])) (fun z => kf (by simp [pm_cond]; simpa using z))
              · exact lv_icmp_ge hx hb hd hq2 (fun z => kt (by simp [pm_cond, z])) (fun z => kf (by simp [pm_cond]; simpa using z))
              · exact lv_icmp_gt hx hb hd hq2 (fun z => kt (by simp [pm_cond, z])) (fun z => kf (by simp [pm_cond]; simpa using z))
              · exact lv_icmp_le hx hb hd hq2 (fun z => kt (by simp [pm_cond, z])) (fun z => kf (by simp [pm_cond]; simpa using z))
            · cases hex
          · cases hbk
        case ifnull t =>
          simp only [pm_bk, hd] at hbk
          simp only [pm_ex] at hex
          split at hbk
          · rename_i off
            simp only [Bool.and_eq_true, decide_eq_true_eq] at hbk
            obtain ⟨hb1, hb2, rfl⟩ := hbk
            obtain ⟨q, hq1, hq2⟩ := pm_tg_at hb1
            obtain ⟨q', hq3, hq4⟩ := pm_ft_at hb2
            split at hex
            · cases hex
              exact lv_ifnullN hx hb hd hq2 (k1 _ _ rfl q hq1 _ _ _ _ _ hR)
            · cases hex
              refine lv_ifnull hx hb hd ?_
              rw [← hq4]
              exact k1 _ _ rfl q' hq3 _ _ _ _ _ hR
            · cases hex
          · cases hbk
        case ifnonnull t =>
          simp only [pm_bk, hd] at hbk
          simp only [pm_ex] at hex
          split at hbk
          · rename_i off
            simp only [Bool.and_eq_true, decide_eq_true_eq] at hbk
            obtain ⟨hb1, hb2, rfl⟩ := hbk
            obtain ⟨q, hq1, hq2⟩ := pm_tg_at hb1
            obtain ⟨q', hq3, hq4⟩ := pm_ft_at hb2
            split at hex
            · cases hex
              refine lv_ifnonnullN hx hb hd ?_
              rw [← hq4]
              exact k1 _ _ rfl q' hq3 _ _ _ _ _ hR
            · cases hex
              exact lv_ifnonnull hx hb hd hq2 (k1 _ _ rfl q hq1 _ _ _ _ _ hR)
            · cases hex
          · cases hbk
        case tableswitch df lo hi offs =>
          simp only [pm_bk, hd] at hbk
          simp only [pm_ex] at hex
          split at hbk
          · rename_i d' lo' hi' offs'
            simp only [Bool.and_eq_true, decide_eq_true_eq] at hbk
            obtain ⟨⟨rfl, rfl, hsz⟩, hb1, hb2⟩ := hbk
            split at hex
            · rename_i x st2
              split at hex
              · rename_i t ht
                cases hex
                unfold pm_tab at ht
                split at ht
                · rename_i hx9
                  cases ht
                  obtain ⟨q, hq1, hq2⟩ := pm_tg_at hb1
                  exact lv_tableOut hx hb hd hx9 hq2 (k1 _ _ rfl q hq1 _ _ _ _ _ hR)
                · rename_i hx9
                  have hlt := (Array.getElem?_eq_some_iff.mp ht).1
                  have h7 := List.all_eq_true.mp hb2 _ (List.mem_range.mpr hlt)
                  obtain ⟨q, hq1, hq2⟩ := pm_tg_at h7
                  rw [Array.getD_eq_getD_getElem?, ht] at hq1
                  refine lv_tableIn hx hb hd (fun z => hx9 (Or.inl z)) (fun z => hx9 (Or.inr z)) (off := offs'.getD (x.toInt - lo).toNat 0) ?_ hq2 (k1 _ _ rfl q hq1 _ _ _ _ _ hR)
                  rw [Array.getD_eq_getD_getElem?, Array.getElem?_eq_getElem (by omega)]
                  rfl
              · cases hex
            · cases hex
          · cases hbk
        case lookupswitch df ps =>
          simp only [pm_bk, hd] at hbk
          simp only [pm_ex] at hex
          split at hbk
          · rename_i d' ps'
            simp only [Bool.and_eq_true] at hbk
            obtain ⟨hb0, hb1, hb2⟩ := hbk
            split at hex
            · rename_i x st2
              cases hex
              obtain ⟨q, hq1, hq2⟩ := pm_tg_at (pm_lkc_at (x := x.toInt) hb1 _ _ hb2)
              exact lv_lookup hx hb hd hb0 rfl hq2 (k1 _ _ rfl q hq1 _ _ _ _ _ hR)
            · cases hex
          · cases hbk
        case ireturn =>
          simp only [pm_bk, hd, decide_eq_true_eq] at hbk
          cases hbk
          simp only [pm_ex] at hex
          split at hex
          · rename_i x
            split at hex
            · rename_i hrt
              cases hex
              exact hret _ _ _ _ _ _ _ _ (Or.inl ⟨rfl, x, rfl, hrt, (k2 _ rfl).symm⟩) (fun _ z => by cases z) hd hR
            · cases hex
          · cases hex
        case lreturn =>
          simp only [pm_bk, hd, decide_eq_true_eq] at hbk
          cases hbk
          simp only [pm_ex] at hex
          split at hex
          · rename_i x
            split at hex
            · rename_i hrt
              cases hex
              exact hret _ _ _ _ _ _ _ _ (Or.inr (Or.inl ⟨rfl, x, rfl, hrt, (k2 _ rfl).symm⟩)) (fun _ z => by cases z) hd hR
            · cases hex
          · cases hex
        case areturn =>
          simp only [pm_bk, hd, decide_eq_true_eq] at hbk
          cases hbk
          simp only [pm_ex] at hex
          split at hex
          · rename_i v
            split at hex
            · rename_i hrt
              cases hex
              exact hret _ _ _ _ _ _ _ _ (Or.inr (Or.inr (Or.inl ⟨rfl, v, rfl, hrt.1, hrt.2, (k2 _ rfl).symm⟩))) (fun z _ => hna z List.mem_cons_self) hd hR
            · cases hex
          · cases hex
        case return_ =>
          simp only [pm_bk, hd, decide_eq_true_eq] at hbk
          cases hbk
          simp only [pm_ex] at hex
          split at hex
          · split at hex
            · rename_i hrt
              cases hex
              exact hret _ _ _ _ _ _ _ _ (Or.inr (Or.inr (Or.inr ⟨rfl, rfl, hrt, (k2 _ rfl).symm⟩))) (fun _ z => by cases z) hd hR
            · cases hex
          · cases hex
        case invokestatic mid =>
          simp only [pm_bk, hd] at hbk
          simp only [pm_ex, pm_sig] at hex
          split at hbk
          · rename_i idx
            simp only [Bool.and_eq_true, decide_eq_true_eq] at hbk
            obtain ⟨rfl, hb1, hb2⟩ := hbk
            cases hmm : M[mid]? with
            | none => rw [hmm] at hb1; cases hb1
            | some mm =>
              rw [hmm] at hb1 hex
              simp only [Bool.and_eq_true, decide_eq_true_eq] at hb1
              simp only at hex
              split at hex
              · rename_i r hr
                obtain ⟨i1, i2, i3⟩ := pm_inv_at hr
                split at hex
                · rename_i t ht
                  subst i1
                  have hm := pm_m_ex hcf _ _ _ hex
                  have hle := hcf _ _ _ _ ht
                  refine pm_s_call (hcall mid mm r.1 S t hmm ht pc idx _ L r.2 H locs ls cells slots C hfr hlo hR i2 hle (Nat.le_trans hm.1 h1) (Nat.le_trans hm.2 h2) hd (Or.inl ⟨rfl, hb1.2, i3⟩) ?_) hR hle (fun H1 locs1 ls1 cells1 slots1 hR1 => ih _ _ _ _ hna9 hb2 hex h1 h2 k1 k2 _ _ _ _ _ hR1)
                  rcases pm_ml_at hb1.1 with h | h
                  · exact Or.inl h
                  · exact Or.inr ⟨h.1, fun k z => by cases z⟩
                · cases hex
              · cases hex
          · cases hbk
        case invokevirtual mid =>
          simp only [pm_bk, hd] at hbk
          simp only [pm_ex, pm_sig] at hex
          split at hbk
          · rename_i idx
            simp only [Bool.and_eq_true, decide_eq_true_eq] at hbk
            obtain ⟨rfl, hb1, hb2⟩ := hbk
            cases hmm : M[mid]? with
            | none => rw [hmm] at hb1; cases hb1
            | some mm =>
              rw [hmm] at hb1 hex
              simp only [Bool.and_eq_true, decide_eq_true_eq] at hb1
              simp only at hex
              split at hex
              · rename_i r hr
                obtain ⟨i1, i2, i3⟩ := pm_inv_at hr
                split at hex
                · rename_i hrc
                  split at hex
                  · rename_i t ht
                    subst i1
                    have hm := pm_m_ex hcf _ _ _ hex
                    have hle := hcf _ _ _ _ ht
                    refine pm_s_call (hcall mid mm r.1 S t hmm ht pc idx _ L r.2 H locs ls cells slots C hfr hlo hR i2 hle (Nat.le_trans hm.1 h1) (Nat.le_trans hm.2 h2) hd (Or.inr (Or.inl ⟨rfl, hb1.2.1, hb1.2.2, hrc, i3⟩)) ?_) hR hle (fun H1 locs1 ls1 cells1 slots1 hR1 => ih _ _ _ _ hna9 hb2 hex h1 h2 k1 k2 _ _ _ _ _ hR1)
                    rcases pm_ml_at hb1.1 with h | h
                    · exact Or.inl h
                    · cases h.2
                  · cases hex
                · cases hex
              · cases hex
          · cases hbk
        case invokespecial mid =>
          simp only [pm_bk, hd] at hbk
          simp only [pm_ex, pm_sig] at hex
          split at hbk
          · rename_i idx
            simp only [Bool.and_eq_true, decide_eq_true_eq] at hbk
            obtain ⟨rfl, hb1, hb2⟩ := hbk
            cases hmm : M[mid]? with
            | none => rw [hmm] at hb1; cases hb1
            | some mm =>
              rw [hmm] at hb1 hex
              simp only [Bool.and_eq_true, decide_eq_true_eq] at hb1
              simp only at hex
              split at hex
              · rename_i r hr
                obtain ⟨i1, i2, i3⟩ := pm_inv_at hr
                split at hex
                · rename_i hrc
                  split at hex
                  · rename_i t ht
                    subst i1
                    have hm := pm_m_ex hcf _ _ _ hex
                    have hle := hcf _ _ _ _ ht
                    refine pm_s_call (hcall mid mm r.1 S t hmm ht pc idx _ L r.2 H locs ls cells slots C hfr hlo hR i2 hle (Nat.le_trans hm.1 h1) (Nat.le_trans hm.2 h2) hd (Or.inr (Or.inr ⟨rfl, hb1.2.1, hb1.2.2, hrc, i3⟩)) ?_) hR hle (fun H1 locs1 ls1 cells1 slots1 hR1 => ih _ _ _ _ hna9 hb2 hex h1 h2 k1 k2 _ _ _ _ _ hR1)
                    rcases pm_ml_at hb1.1 with h | h
                    · exact Or.inl h
                    · exact Or.inr ⟨h.1, fun k z => by cases z⟩
                  · cases hex
                · cases hex
              · cases hex
          · cases hbk
        all_goals cases hct
end PMM1
section PMT1
variable {p : Program} {l : Launch} {e : Env} {R : Room} {s : State} {m : MethodId} {args : Array Value} {below : List Frame} {meth : Method} {c : Code} {Q : State → Prop} {cc : ByteArray} {nL : Nat} {own : String} {sa : Nat → Nat} {base : Nat} {dC : Nat → ClassId} {dI : Nat → Nat → Nat} {dA : Nat → ClassId} {X : pm_X} {n0 sl0 nf slf : Nat}
theorem pm_go_ok1 {M : List pm_M} {cf : Nat → List Value → pm_S → Option pm_T} {ret : Option FieldType} {code : List (Nat × List Instr)} {d : Nat} {ini na : Bool} {sp : Nat → Bool} {tf : pm_T} (C : pm_C p R s m args meth c cc nL own sa base dC dI dA X n0 sl0 nf slf) (hini : ini = true → meth.name = "<init>") (hfr : d + 1 ≤ R.frames) (hlo : 64 * (d + 1) ≤ R.locals) (hcf : pm_mf cf)
    (hcall : ∀ (mid : Nat) (mm : pm_M) (as : List Value) (S : pm_S) (t : pm_T), M[mid]? = some mm → cf mid as S = some t → pm_CB1 p l e R s m args below meth c cc nL own sa base dC dI dA X n0 sl0 nf slf d mm as S t)
    (hret : ∀ (i : Instr) (pc : Nat) (f : pm_F) (H : Heap) (locs : List Loc) (ls : Array Slot) (cells slots : Nat), pm_isRet ret i f tf → (na = true → i ≠ .areturn) → decode cc pc = .ok (i, 1) → pm_R sa base dC dI dA s nL n0 sl0 f H locs ls cells slots → W p l e R s m args below meth c H locs cells slots Q (F0 m pc ls (f.2.1.map (pm_cv (pm_ad sa base)))))
    (hcode : ∀ (b : Nat) (q : Nat × List Instr), code[b]? = some q → sp b = false → (na = true → Instr.areturn ∉ q.2) ∧ ∃ hs, pm_bk cc own ini M code b q.1 q.2 hs = true)
    (hsp : ∀ (b : Nat) (q : Nat × List Instr) (f : pm_F) (o : pm_O), code[b]? = some q → sp b = true → pm_ex X M cf ret b q.2 f = some o → (∀ g, o ≠ .inl g) ∧ (o = .inr tf → ∀ (H : Heap) (locs : List Loc) (ls : Array Slot) (cells slots : Nat), pm_R sa base dC dI dA s nL n0 sl0 f H locs ls cells slots → W p l e R s m args below meth c H locs cells slots Q (F0 m q.1 ls (f.2.1.map (pm_cv (pm_ad sa base)))))) (hnf : tf.2.1.length ≤ nf) (hsl : tf.2.2 ≤ slf) :
    ∀ (F b : Nat) (f : pm_F), pm_go X M cf ret code F b f = some tf → ∀ q, code[b]? = some q → ∀ (H : Heap) (locs : List Loc) (ls : Array Slot) (cells slots : Nat), pm_R sa base dC dI dA s nL n0 sl0 f H locs ls cells slots → W p l e R s m args below meth c H locs cells slots Q (F0 m q.1 ls (f.2.1.map (pm_cv (pm_ad sa base)))) := by
  intro F
  induction F with
  | zero => intro b f h; unfold pm_go at h; cases h
  | succ F ih =>
    intro b f h q hq H locs ls cells slots hR
    unfold pm_go at h
    rw [hq] at h
    simp only at h
    cases hspb : sp b with
    | true =>
      split at h
      · cases h
      · rename_i g hg
        exact absurd rfl ((hsp b q f _ hq hspb hg).1 g)
      · rename_i t hg
        cases h
        exact (hsp b q f _ hq hspb hg).2 rfl H locs ls cells slots hR
    | false =>
    obtain ⟨hna, hs, hbk⟩ := hcode b q hq hspb
    split at h
    · cases h
    · rename_i g hg
      have hm := pm_m_go hcf _ _ _ _ h
      refine pm_ex_ok1 C hini hfr hlo hcf hcall hret q.2 hs q.1 f _ hna hbk hg (Nat.le_trans hm.1 hnf) (Nat.le_trans hm.2 hsl) ?_ (fun t ht => by cases ht) H locs ls cells slots hR
      intro b' f' e1 q' hq' H1 locs1 ls1 cells1 slots1 hR1
      cases e1
      exact ih _ _ h q' hq' _ _ _ _ _ hR1
    · rename_i t hg
      cases h
      exact pm_ex_ok1 C hini hfr hlo hcf hcall hret q.2 hs q.1 f _ hna hbk hg hnf hsl (fun b' f' e1 => by cases e1) (fun t ht => by cases ht; rfl) H locs ls cells slots hR
end PMT1
