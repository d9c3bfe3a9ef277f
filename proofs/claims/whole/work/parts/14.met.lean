/-! a method's contract, out of its run in the pure machine; all methods, by the depth of calls -/
def pm_code (M : List pm_M) (m : pm_M) : Prop := (∃ q, m.2.2[0]? = some q ∧ q.1 = 0) ∧ ∀ (b : Nat) (q : Nat × List Instr), m.2.2[b]? = some q → ∃ hs, pm_bk m.1.2.1 m.1.1.cls (decide (m.1.1.name = "<init>")) M m.2.2 b q.1 q.2 hs = true
section PMT
variable {p : Program} {l : Launch} {e : Env} {R : Room} {s : State} {m : MethodId} {args : Array Value} {below : List Frame} {meth : Method} {c : Code} {Q : State → Prop} {cc : ByteArray} {nL : Nat} {own : String} {sa : Nat → Nat} {base : Nat} {dC : Nat → ClassId} {dI : Nat → Nat → Nat} {dA : Nat → ClassId} {X : pm_X} {n0 sl0 nf slf : Nat}
theorem pm_go_ok {M : List pm_M} {cf : Nat → List Value → pm_S → Option pm_T} {ret : Option FieldType} {code : List (Nat × List Instr)} {d : Nat} {ini : Bool} {tf : pm_T} (C : pm_C p R s m args meth c cc nL own sa base dC dI dA X n0 sl0 nf slf) (hini : ini = true → meth.name = "<init>") (hfr : d + 1 ≤ R.frames) (hlo : 64 * (d + 1) ≤ R.locals) (hcf : pm_mf cf)
    (hcall : ∀ (mid : Nat) (mm : pm_M) (as : List Value) (S : pm_S) (t : pm_T), M[mid]? = some mm → cf mid as S = some t → pm_CB l sa base dC dI dA X d mm as S t)
    (hret : ∀ (i : Instr) (pc : Nat) (f : pm_F) (H : Heap) (locs : List Loc) (ls : Array Slot) (cells slots : Nat), pm_isRet ret i f tf → decode cc pc = .ok (i, 1) → pm_R sa base dC dI dA s nL n0 sl0 f H locs ls cells slots → W p l e R s m args below meth c H locs cells slots Q (F0 m pc ls (f.2.1.map (pm_cv (pm_ad sa base)))))
    (hcode : ∀ (b : Nat) (q : Nat × List Instr), code[b]? = some q → ∃ hs, pm_bk cc own ini M code b q.1 q.2 hs = true) (hnf : tf.2.1.length ≤ nf) (hsl : tf.2.2 ≤ slf) :
    ∀ (F b : Nat) (f : pm_F), pm_go X M cf ret code F b f = some tf → ∀ q, code[b]? = some q → ∀ (H : Heap) (locs : List Loc) (ls : Array Slot) (cells slots : Nat), pm_R sa base dC dI dA s nL n0 sl0 f H locs ls cells slots → W p l e R s m args below meth c H locs cells slots Q (F0 m q.1 ls (f.2.1.map (pm_cv (pm_ad sa base)))) := by
  intro F
  induction F with
  | zero => intro b f h; unfold pm_go at h; cases h
  | succ F ih =>
    intro b f h q hq H locs ls cells slots hR
    unfold pm_go at h
    rw [hq] at h
    simp only at h
    obtain ⟨hs, hbk⟩ := hcode b q hq
    split at h
    · cases h
    · rename_i g hg
      have hm := pm_m_go hcf _ _ _ _ h
      refine pm_ex_ok C hini hfr hlo hcf hcall hret q.2 hs q.1 f _ hbk hg (Nat.le_trans hm.1 hnf) (Nat.le_trans hm.2 hsl) ?_ (fun t ht => by cases ht) H locs ls cells slots hR
      intro b' f' e1 q' hq' H1 locs1 ls1 cells1 slots1 hR1
      cases e1
      exact ih _ _ h q' hq' _ _ _ _ _ hR1
    · rename_i t hg
      cases h
      exact pm_ex_ok C hini hfr hlo hcf hcall hret q.2 hs q.1 f _ hbk hg hnf hsl (fun b' f' e1 => by cases e1) (fun t ht => by cases ht; rfl) H locs ls cells slots hR
end PMT
section PMU
variable {l : Launch} {sa : Nat → Nat} {base : Nat} {dC : Nat → ClassId} {dI : Nat → Nat → Nat} {dA : Nat → ClassId} {X : pm_X}
theorem pm_met {M : List pm_M} {cf : Nat → List Value → pm_S → Option pm_T} {d F : Nat} {mm : pm_M} {as : List Value} {S : pm_S} {t : pm_T} {L : List (Option Value)} (hm : pm_mOK mm) (hcode : pm_code M mm) (hcf : pm_mf cf)
    (hcall : ∀ (mid : Nat) (mm : pm_M) (as : List Value) (S : pm_S) (t : pm_T), M[mid]? = some mm → cf mid as S = some t → pm_CB l sa base dC dI dA X d mm as S t)
    (hent : pm_ent mm.1.2.2.1 as = some L) (hgo : pm_go X M cf mm.1.2.2.2 mm.2.2 F 0 (L, [], S) = some t) :
    Met l mm.1.1 (pm_ws mm) (pm_rm (d + 1) (t.2.1.length - S.1.length) (t.2.2 - S.2)) (pm_Pc sa base dC dI dA X as S) (fun _ => pm_Post sa base dC dI dA t) (t.2.1.length - S.1.length) (t.2.2 - S.2) (fun q : Nat => base ≤ q) := by
  obtain ⟨w1, w2, w3, w4, w5, w6, w7⟩ := hm
  refine Met.ofW (cc := mm.1.2.1) (maxL := mm.1.2.2.1) (ret := mm.1.2.2.2) w3 rfl ?_
  intro p e s m args below meth c s₁ B hml hv
  obtain ⟨rfl, hK, hP, hsz⟩ := hv
  have hx := B.exec
  have hb := B.bytes
  have hr := B.returns
  have hts := atoms_spec (ws := pm_ws mm) B.pre
  have hown : s.vm.findClass mm.1.1.cls = some m.cls := findClass_of_methodNamed B.named
  have hlocks := B.notSynchronized
  have hname : meth.name = mm.1.1.name := (name_of_methodNamed B.named B.method).1
  obtain ⟨⟨q0, hq0, hq00⟩, hblk⟩ := hcode
  have hle := pm_m_go hcf _ _ _ _ hgo
  have hle1 := hle.1
  have hle2 := hle.2
  dsimp only at hle1 hle2
  obtain ⟨hlen, hLR⟩ := pm_ent_LR (ad := pm_ad sa base) hent
  have C : pm_C p (pm_rm (d + 1) (t.2.1.length - S.1.length) (t.2.2 - S.2)) s m (as.map (pm_cv (pm_ad sa base))).toArray meth c mm.1.2.1 mm.1.2.2.1 mm.1.1.cls sa base dC dI dA X S.1.length S.2 t.2.1.length t.2.2 :=
    ⟨hx, hb, hml, hown, fun w hw => hts w (List.mem_cons_of_mem _ hw), hlocks, hK, by show _ ≤ S.1.length + (t.2.1.length - S.1.length); omega, by show _ ≤ S.2 + (t.2.2 - S.2); omega, by show 1 ≤ d + 1; omega, by show 64 ≤ 64 * (d + 1); omega⟩
  rw [lg_entry_eq]
  have hent0 : F0 m 0 ((lg_sl (as.map (pm_cv (pm_ad sa base))) ++ List.replicate (mm.1.2.2.1 - (lg_sl (as.map (pm_cv (pm_ad sa base)))).length) Slot.unset).toArray) [] = F0 m q0.1 ((lg_sl (as.map (pm_cv (pm_ad sa base))) ++ List.replicate (mm.1.2.2.1 - (lg_sl (as.map (pm_cv (pm_ad sa base)))).length) Slot.unset).toArray) (([] : List Value).map (pm_cv (pm_ad sa base))) := by rw [hq00]; rfl
  rw [hent0]
  refine pm_go_ok (d := d) (tf := t) (ini := decide (mm.1.1.name = "<init>")) C (fun h => by rw [hname]; simpa using h) (by show d + 1 ≤ d + 1; omega) (by show 64 * (d + 1) ≤ 64 * (d + 1); omega) hcf hcall ?_ hblk (Nat.le_refl _) (Nat.le_refl _) F 0 (L, [], S) hgo q0 hq0 s.heap [] _ 0 0 ⟨hLR, hP, hsz, va_S.rf, rfl, rfl⟩
  intro i pc f H locs ls cells slots hir hdg hR
  obtain ⟨r1, r2, r3, r4, r5, r6⟩ := hR
  have key : t.2 = f.2.2 → cells = t.2.1.length - S.1.length ∧ slots = t.2.2 - S.2 := fun h => by rw [h]; constructor <;> omega
  have post : ∀ v : Option Value, t = (v, f.2.2) → ∀ u : State, u.heap = H → s.WarmedH u.vm → pm_Post sa base dC dI dA t s (.returned (v.map (pm_cv (pm_ad sa base)))) u := by
    intro v ht u hu _
    subst ht
    exact ⟨rfl, by rw [hu]; exact r2, by rw [hu]; exact r3, r4.F hu⟩
  rcases hir with ⟨rfl, x, e1, e2, e3⟩ | ⟨rfl, x, e1, e2, e3⟩ | ⟨rfl, v, e1, e2, e3, e4⟩ | ⟨rfl, e1, e2, e3⟩
  · obtain ⟨k1, k2⟩ := key (by rw [e3])
    rw [e1, ← k1, ← k2]
    unfold pm_ret at e2
    split at e2
    · rename_i ty hty
      exact W.zret hx hb (ty := ty) (by rw [hr]; exact hty) (pm_fit_ok (ad := id) e2).1 (post _ e3) r4.2.2 hdg
    · cases e2
  · obtain ⟨k1, k2⟩ := key (by rw [e3])
    rw [e1, ← k1, ← k2]
    exact W.lret hx hb (by rw [hr]; exact e2) (post _ e3) r4.2.2 hdg
  · obtain ⟨k1, k2⟩ := key (by rw [e4])
    rw [e1, ← k1, ← k2]
    unfold pm_ret at e3
    split at e3
    · rename_i ty hty
      refine W.aret hx hb (rt := ty) (by rw [hr]; exact hty) ?_ ?_ (post _ e4) r4.2.2 hdg
      · cases v with
        | ref a => cases ty <;> first | (cases e3; done) | exact Or.inl ⟨_, rfl⟩ | exact Or.inr ⟨_, rfl⟩
        | null => cases ty <;> first | (cases e3; done) | exact Or.inl ⟨_, rfl⟩ | exact Or.inr ⟨_, rfl⟩
        | _ => cases e2
      · cases v with
        | ref a => exact Or.inr ⟨_, rfl⟩
        | null => exact Or.inl rfl
        | _ => cases e2
    · cases e3
  · obtain ⟨k1, k2⟩ := key (by rw [e3])
    rw [e1, ← k1, ← k2]
    exact W.vret hx hb (by rw [hr]; exact e2) (post _ e3) r4.2.2 hdg
theorem pm_all {M : List pm_M} {PR : pm_P} (hM : ∀ (mid : Nat) (mm : pm_M), M[mid]? = some mm → PR mid = none → pm_mOK mm ∧ pm_code M mm) (hPR : ∀ (mid : Nat) (g : List Value → pm_S → Option pm_T), PR mid = some g → ∀ (as : List Value) (S : pm_S) (t : pm_T), g as S = some t → pm_le S t.2)
    (hPC : ∀ (mid : Nat) (mm : pm_M) (g : List Value → pm_S → Option pm_T), M[mid]? = some mm → PR mid = some g → ∀ (d : Nat), 16 ≤ d → ∀ (as : List Value) (S : pm_S) (t : pm_T), g as S = some t → pm_CB l sa base dC dI dA X (d + 1) mm as S t) :
    ∀ (d mid : Nat) (mm : pm_M) (as : List Value) (S : pm_S) (t : pm_T), M[mid]? = some mm → pm_call X M PR d mid as S = some t → pm_CB l sa base dC dI dA X d mm as S t := by
  intro d
  induction d with
  | zero => intro mid mm as S t _ h; unfold pm_call at h; cases h
  | succ d ih =>
    intro mid mm as S t hmm h
    unfold pm_call at h
    split at h
    · rename_i g hg
      split at h
      · rename_i hd
        exact hPC mid mm g hmm hg d hd as S t h
      · cases h
    · rename_i hg
      rw [hmm] at h
      simp only at h
      split at h
      · cases h
      · rename_i L hL
        obtain ⟨h1, h2⟩ := hM mid mm hmm hg
        exact pm_CB_of h1 (pm_met h1 h2 (pm_m_call hPR d) ih hL h)
end PMU
