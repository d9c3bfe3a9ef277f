/-! the class: the hall settles a part -/
theorem psm_bd {k p : Nat → Int32} {w : Nat → Nat → Int32} {v : Nat → Int32} {party : Int32} {x y : Nat} : ∀ n, n ≤ 9 → (∀ m, m < n → ∃ k, k ≤ 9 ∧ v m = nI k) → -(9 * n : Int) ≤ (psm k p w v party x y n).toInt ∧ (psm k p w v party x y n).toInt ≤ 9 * n := by
  intro n
  induction n with
  | zero => intro _ _; exact ⟨by show _ ≤ (0 : Int32).toInt; decide, by show (0 : Int32).toInt ≤ _; decide⟩
  | succ n ih =>
    intro hn hv
    obtain ⟨i1, i2⟩ := ih (by omega) (fun m hm => hv m (by omega))
    obtain ⟨c, hc, ec⟩ := hv n (by omega)
    have hb : -(9 : Int) ≤ (if (k n = 3 ∨ k n = 4) ∧ p n = party then sgn (w n x) (w n y) * v n else 0).toInt ∧ (if (k n = 3 ∨ k n = 4) ∧ p n = party then sgn (w n x) (w n y) * v n else 0).toInt ≤ 9 := by
      rw [Int32.mul_comm, mul_sgn, ec]
      have e1 : (nI c).toInt = c := nI_toInt (by omega)
      have e2 : (-nI c).toInt = -(c : Int) := sb_negT (by omega)
      split
      · split
        · rw [e1]; omega
        · split
          · rw [e2]; omega
          · decide
      · decide
    unfold psm
    rw [add_toInt (by omega) (by omega)]
    omega
/-- the hall's view -/
def hvw (s : QST) (N : Nat) : VW := (N, qF s 74 1, fun m => qF s (84 + 3 * m) 1, fun m => qF s (84 + 3 * m) 2, fun m => qF s (84 + 3 * m) 3, fun m => (qF s (84 + 3 * m) 3).toNatClampNeg, fun m => qF s (84 + 3 * m) 4, fun m => qE s (84 + 3 * m + 1))
/-- the hall is well: N seats, p steps -/
def hok (s : QST) (N p : Nat) : Prop := qF s 74 0 = nI N ∧ N ≤ 9 ∧ qF s 74 2 = nI p ∧ p ≤ 5 ∧ ∀ m, m < N → (∃ k, k ≤ 5 ∧ qF s (84 + 3 * m) 1 = nI k) ∧ (∃ k, k ≤ 9 ∧ qF s (84 + 3 * m) 2 = nI k) ∧ ((qF s (84 + 3 * m) 1 = 3 ∨ qF s (84 + 3 * m) 1 = 4) → ∃ q, q < 3 ∧ qF s (84 + 3 * m) 3 = nI q) ∧ (qF s (84 + 3 * m) 1 = 2 → ∃ q, q ≤ p ∧ qF s (84 + 3 * m) 3 = nI q)
theorem hvw_cg {s s' : QST} {lo hi : Nat} (F : qfr lo hi s s') (h1 : 75 ≤ lo) (h2 : hi ≤ 83) (N : Nat) : hvw s' N = hvw s N := by
  unfold hvw
  have e : ∀ m, qF s' (84 + 3 * m) = qF s (84 + 3 * m) := fun m => F.F (by omega)
  have e2 : ∀ m, qE s' (84 + 3 * m + 1) = qE s (84 + 3 * m + 1) := fun m => F.E (by omega)
  simp only [e, e2, F.F (c := 74) (by omega)]
theorem hok.cg {s s' : QST} {lo hi N p : Nat} (h : hok s N p) (F : qfr lo hi s s') (h1 : 75 ≤ lo) (h2 : hi ≤ 83) : hok s' N p := by
  unfold hok
  have e : ∀ m, qF s' (84 + 3 * m) = qF s (84 + 3 * m) := fun m => F.F (by omega)
  simp only [e, F.F (c := 74) (by omega)]
  exact h
/-- the arrays hold what comes of node A -/
def hnd (s : QST) (p A : Nat) (v : NV) : Prop := A < 64 ∧ qE s 76 A = nI v.1 ∧ v.1 < 7 ∧ qE s 77 A = nI v.2.1 ∧ v.2.1 < 7 ∧ (∀ q, q ≤ p → qE s 81 (64 * q + A) = nI (v.2.2.1 q) ∧ v.2.2.1 q < 7) ∧ qE s 80 A = v.2.2.2.1
/-- but for node n the arrays are as they were -/
def hnf (n : Nat) (s s' : QST) : Prop := ∀ j, j < 64 → j ≠ n → (∀ c, 76 ≤ c → c ≤ 80 → qE s' c j = qE s c j) ∧ ∀ q, qE s' 81 (64 * q + j) = qE s 81 (64 * q + j)
theorem hnf.rf (n : Nat) (s : QST) : hnf n s s := fun _ _ _ => ⟨fun _ _ _ => rfl, fun _ => rfl⟩
theorem hnf.trans {n : Nat} {s t u : QST} (h : hnf n s t) (g : hnf n t u) : hnf n s u := fun j h1 h2 => ⟨fun c h3 h4 => ((g j h1 h2).1 c h3 h4).trans ((h j h1 h2).1 c h3 h4), fun q => ((g j h1 h2).2 q).trans ((h j h1 h2).2 q)⟩
theorem hnf.nd {n p A : Nat} {s t : QST} {v : NV} (h : hnf n s t) (hA : A ≠ n) (hv : hnd s p A v) : hnd t p A v := by
  obtain ⟨a1, a2, a3, a4, a5, a6, a7⟩ := hv
  obtain ⟨g1, g2⟩ := h A a1 hA
  exact ⟨a1, by rw [g1 76 (by omega) (by omega)]; exact a2, a3, by rw [g1 77 (by omega) (by omega)]; exact a4, a5, fun q hq => by rw [g2]; exact a6 q hq, by rw [g1 80 (by omega) (by omega)]; exact a7⟩
theorem hnf.sE {n c : Nat} {s t : QST} {v : Int32} (h : hnf n s t) (hc : c < 81) : hnf n s (uE t c n v) := h.trans (fun j h1 h2 => ⟨fun c' h3 h4 => by rw [qE_uE, if_neg (fun z => h2 z.2)], fun q => by rw [qE_uE, if_neg (by omega)]⟩)
theorem hnf.s81 {n e : Nat} {s t : QST} {v : Int32} (h : hnf n s t) (hn : n < 64) : hnf n s (uE t 81 (64 * e + n) v) := h.trans (fun j h1 h2 => ⟨fun c' h3 h4 => by rw [qE_uE, if_neg (by omega)], fun q => by rw [qE_uE, if_neg (by omega)]⟩)
theorem hnf.fr {n : Nat} {s t : QST} {lo hi : Nat} (F : qfr lo hi s t) (h1 : 82 ≤ lo) : hnf n s t := fun j _ _ => ⟨fun c _ _ => F.e (by omega), fun _ => F.e (by omega)⟩
theorem hnd.fr {p A : Nat} {s t : QST} {lo hi : Nat} {v : NV} (F : qfr lo hi s t) (h1 : 82 ≤ lo) (h : hnd s p A v) : hnd t p A v := hnf.nd (n := A + 1) (hnf.fr F h1) (by omega) h
theorem hnd.ve {p A : Nat} {s : QST} {v v' : NV} (h : hnd s p A v) (e : nve v v') (hp : p ≤ 5) : hnd s p A v' := by
  obtain ⟨a1, a2, a3, a4, a5, a6, a7⟩ := h
  obtain ⟨e1, e2, e3, e4⟩ := e
  exact ⟨a1, by rw [← e1]; exact a2, by rw [← e1]; exact a3, by rw [← e2]; exact a4, by rw [← e2]; exact a5, fun q hq => by rw [← e3 q (by omega)]; exact a6 q hq, by rw [← e4]; exact a7⟩
section
variable {X : pm_X} {PR : pm_P} {s : QST} {N p : Nat} {Q : QPost}
theorem w_fill (hP : pm_np PR) {d : Nat} (hd : 1 ≤ d) {c n : Nat} {ts : List Nat} (hl : qLY c (0, n, ts)) (hn : n < 2 ^ 31) (v : Int32) (hk : Q none (uA s c (fun j => if j < n then v else qE s c j))) : qP X PR d 2 [.ref c, .int v] s Q := by
  refine ⟨none, _, ?_, hk⟩
  rw [← qhp_uA hl]
  exact r_Arrays_fill hP hd (hl.a s) hn v
theorem r_seat_lean (hP : pm_np PR) {d : Nat} (hd : 1 ≤ d) {m x y : Nat} (hm : m < 9) (hx : x < 7) (hy : y < 7) : pm_run X pm_Ms PR d 48 [.ref (84 + 3 * m), .int (nI x), .int (nI y)] (qhp s) = some (some (.int (sgn (qE s (84 + 3 * m + 1) x) (qE s (84 + 3 * m + 1) y))), qhp s) := r_Member_leaning hP hd (MB_hp (mb_seat hm) s) hx hy
theorem w_Hall_drawLines (hP : pm_np PR) {d : Nat} (hd : 2 ≤ d) (hh : hok s N p) {A B x y : Nat} (hA : A < 64) (hB : B < 64) (eA : qE s 76 A = nI x) (eB : qE s 76 B = nI y) (hx : x < 7) (hy : y < 7) (hk : ∀ s', qfr 82 82 s s' → (∀ q, q < 3 → qE s' 82 q = glin (hvw s N) (nI q) x y) → Q none s') : qP X PR d 16 [.ref 74, .int (nI A), .int (nI B)] s Q := by
  obtain ⟨hz, hN, -, -, hm0⟩ := hh
  obtain ⟨g, hg⟩ : ∃ g : Nat → Nat → Int32, ∀ q m, g q m = psm (gK (hvw s N)) (gP (hvw s N)) (gW (hvw s N)) (gV (hvw s N)) (nI q) x y m := ⟨_, fun _ _ => rfl⟩
  have gl : ∀ q, glin (hvw s N) (nI q) x y = sg0 (g q N) := fun q => by rw [hg]; rfl
  have bd := fun q => psm_bd (k := gK (hvw s N)) (p := gP (hvw s N)) (w := gW (hvw s N)) (v := gV (hvw s N)) (party := nI q) (x := x) (y := y) N hN (fun m hm => (hm0 m hm).2.1)
  simp only [gl] at hk
  refine qP.of (L := [_, _, _, _, _]) (by omega) (hP _ rfl) ms_Hall_drawLines rfl ?_
  show qW X PR (d - 1) (none) cd_Hall_drawLines 0 _ _ _ _
  have last : ∀ (k e : Nat) (s1 : QST) (L4 : Option Value), e + k = 3 → qfr 82 82 s s1 → (∀ q, q < e → qE s1 82 q = sg0 (g q N)) → (∀ q, e ≤ q → q < 3 → qE s1 82 q = g q N) → qW X PR (d - 1) (none) cd_Hall_drawLines 6 [some (.ref (74)), some (.int (nI A)), some (.int (nI B)), some (.int (nI e)), L4] [] s1 Q := by
    intro k
    induction k with
    | zero =>
      intro e s1 L4 he F1 h1 h2
      have e3 : e = 3 := by omega
      subst e3
      refine qW.blk rfl ?_
      refine qv_iload rfl ?_
      refine qv_iconst (v := 3) rfl ?_
      refine qv_icmp_geNt (q := 3) rfl rfl (by omega) (by omega) (by omega) (tgt := 8) rfl ?_
      refine qW.blk rfl ?_
      refine qv_ret rfl ?_
      exact hk _ F1 h1
    | succ k ih =>
      intro e s1 L4 he F1 h1 h2
      have hge := h2 e (Nat.le_refl _) (by omega)
      refine qW.blk rfl ?_
      refine qv_iload rfl ?_
      refine qv_iconst (v := 3) rfl ?_
      refine qv_icmp_geNf (q := 3) rfl rfl (by omega) (by omega) (by omega) (nx := 7) rfl ?_
      refine qW.blk rfl ?_
      refine qv_aload rfl ?_
      refine qv_gr ly_74 ⟨rfl, rfl, rfl⟩ (by omega) ?_
      refine qv_iload rfl ?_
      refine qv_aload rfl ?_
      refine qv_gr ly_74 ⟨rfl, rfl, rfl⟩ (by omega) ?_
      refine qv_iload rfl ?_
      refine qv_ia ly_82 rfl (by omega) (by decide) rfl ?_
      refine qv_staticE sg_Integer_signum rfl (r_Integer_signum hP (by omega) (qE s1 82 e) (by rw [hge, hg]; have := bd e; omega)) ?_
      refine qv_is ly_82 rfl (by omega) (by decide) ?_
      refine qv_iinc (L' := [_, _, _, _, _]) rfl (nI_succ _).symm rfl ?_
      refine qv_goto (tgt := 6) rfl ?_
      refine ih (e + 1) _ L4 (by omega) (F1.uE (by omega)) (fun q hq => ?_) (fun q h3 h4 => ?_)
      · by_cases hqe : q = e
        · subst hqe; rw [qE_uEs, hge]
        · rw [qE_uEk hqe]; exact h1 q (by omega)
      · rw [qE_uEk (by omega)]; exact h2 q (by omega) h4
  have loop : ∀ (k m : Nat) (s1 : QST) (L4 : Option Value), m + k = N → qfr 82 82 s s1 → (∀ q, q < 3 → qE s1 82 q = g q m) → qW X PR (d - 1) (none) cd_Hall_drawLines 1 [some (.ref (74)), some (.int (nI A)), some (.int (nI B)), some (.int (nI m)), L4] [] s1 Q := by
    intro k
    induction k with
    | zero =>
      intro m s1 L4 hm F1 h1
      have e : m = N := by omega
      subst e
      refine qW.blk rfl ?_
      refine qv_iload rfl ?_
      refine qv_aload rfl ?_
      refine qv_gi ly_74 ⟨rfl, rfl, rfl⟩ ((F1.f (by omega)).trans hz) ?_
      refine qv_icmp_geNt rfl rfl (by omega) (by omega) (by omega) (tgt := 5) rfl ?_
      refine qW.blk rfl ?_
      refine qv_iconst (v := 0) rfl ?_
      refine qv_istore (L' := [_, _, _, _, _]) rfl ?_
      refine qv_nil (nx := 6) rfl ?_
      exact last 3 0 s1 L4 (by omega) F1 (fun q hq => by omega) (fun q _ hq => h1 q hq)
    | succ k ih =>
      intro m s1 L4 hm F1 h1
      have hm9 : m < 9 := by omega
      obtain ⟨-, -, hp, -⟩ := hm0 m (by omega)
      have eF : qF s1 (84 + 3 * m) = qF s (84 + 3 * m) := F1.F (by omega)
      have eW : qE s1 (84 + 3 * m + 1) = qE s (84 + 3 * m + 1) := F1.E (by omega)
      have gs : ∀ q, g q (m + 1) = g q m + (if (qF s (84 + 3 * m) 1 = 3 ∨ qF s (84 + 3 * m) 1 = 4) ∧ qF s (84 + 3 * m) 3 = nI q then sgn (qE s (84 + 3 * m + 1) x) (qE s (84 + 3 * m + 1) y) * qF s (84 + 3 * m) 2 else 0) := fun q => by rw [hg, hg]; rfl
      refine qW.blk rfl ?_
      refine qv_iload rfl ?_
      refine qv_aload rfl ?_
      refine qv_gi ly_74 ⟨rfl, rfl, rfl⟩ ((F1.f (by omega)).trans hz) ?_
      refine qv_icmp_geNf rfl rfl (by omega) (by omega) (by omega) (nx := 2) rfl ?_
      refine qW.blk rfl ?_
      refine qv_aload rfl ?_
      refine qv_gr ly_74 ⟨rfl, rfl, rfl⟩ (by omega) ?_
      refine qv_iload rfl ?_
      refine qv_aa (j := m) (r := 84 + 3 * m) ly_75 rfl (show _ < 9 by omega) (by decide) rfl ?_
      refine qv_astore (L' := [_, _, _, _, _]) rfl ?_
      refine qv_aload rfl ?_
      refine qv_virtE ((mb_seat (m := m) (by omega)).1.rcv _) sg_Member_ofParty rfl rfl (r_Member_ofParty hP (by omega) (MB_hp (mb_seat hm9) s1)) ?_
      refine qv_if_eqB (tgt := 4) (nx := 3) rfl rfl (fun hc2 => ?_) (fun hc2 => ?_)
      · rw [eF] at hc2
        refine qW.blk rfl ?_
        refine qv_iinc (L' := [_, _, _, _, _]) rfl (nI_succ _).symm rfl ?_
        refine qv_goto (tgt := 1) rfl ?_
        exact ih (m + 1) _ _ (by omega) F1 (fun q hq => by rw [gs, if_neg (fun z => hc2 z.1), Int32.add_zero]; exact h1 q hq)
      · rw [eF] at hc2
        obtain ⟨c, hc3, ec⟩ := hp hc2
        refine qW.blk rfl ?_
        refine qv_aload rfl ?_
        refine qv_gr ly_74 ⟨rfl, rfl, rfl⟩ (by omega) ?_
        refine qv_aload rfl ?_
        refine qv_gi (mb_seat (m := m) (by omega)).1 ⟨rfl, rfl, rfl⟩ ((congrFun eF 3).trans ec) ?_
        refine qv_dup2 rfl rfl ?_
        refine qv_ia ly_82 rfl (by omega) (by decide) rfl ?_
        refine qv_aload rfl ?_
        refine qv_gi (mb_seat (m := m) (by omega)).1 ⟨rfl, rfl, rfl⟩ rfl ?_
        refine qv_aload rfl ?_
        refine qv_aload rfl ?_
        refine qv_gr ly_74 ⟨rfl, rfl, rfl⟩ (by omega) ?_
        refine qv_iload rfl ?_
        refine qv_ia ly_76 rfl (by omega) (by decide) ((F1.e (by omega)).trans eA) ?_
        refine qv_aload rfl ?_
        refine qv_gr ly_74 ⟨rfl, rfl, rfl⟩ (by omega) ?_
        refine qv_iload rfl ?_
        refine qv_ia ly_76 rfl (by omega) (by decide) ((F1.e (by omega)).trans eB) ?_
        refine qv_virtE ((mb_seat (m := m) (by omega)).1.rcv _) sg_Member_leaning rfl rfl (r_seat_lean hP (by omega) hm9 hx hy) ?_
        refine qv_imul ?_
        refine qv_iadd ?_
        refine qv_is ly_82 rfl (by omega) (by decide) ?_
        refine qv_nil (nx := 4) rfl ?_
        refine qW.blk rfl ?_
        refine qv_iinc (L' := [_, _, _, _, _]) rfl (nI_succ _).symm rfl ?_
        refine qv_goto (tgt := 1) rfl ?_
        refine ih (m + 1) _ _ (by omega) (F1.uE (by omega)) (fun q hq => ?_)
        rw [gs, eF, eW]
        by_cases hqe : q = c
        · subst hqe
          rw [qE_uEs, if_pos ⟨hc2, ec⟩, h1 q hq, Int32.mul_comm]
        · rw [qE_uEk hqe, if_neg (fun z => hqe ((nI_eq (by omega) (by omega)).mp (z.2.symm.trans ec))), Int32.add_zero]
          exact h1 q hq
  refine qW.blk rfl ?_
  refine qv_aload rfl ?_
  refine qv_gr ly_74 ⟨rfl, rfl, rfl⟩ (by omega) ?_
  refine qv_iconst (v := 0) rfl ?_
  refine qv_static sg_Arrays_fill rfl (w_fill hP (by omega) ly_82 (by decide) 0 ?_) 
  refine qv_iconst (v := 0) rfl ?_
  refine qv_istore (L' := [_, _, _, _, _]) rfl ?_
  refine qv_nil (nx := 1) rfl ?_
  refine loop N 0 _ _ (by omega) ((qfr.rf s).uA (by omega)) (fun q hq => ?_)
  rw [qE_uAs, if_pos hq, hg]
  rfl
end
