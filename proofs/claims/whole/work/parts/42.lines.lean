/-! the class: the parties' lines -/
theorem psm_bd {k p : Nat → Int32} {w : Nat → Nat → Int32} {v : Nat → Int32} {party : Int32} {x y : Nat} : ∀ n, n ≤ 9 → (∀ m, m < n → ∃ k, k ≤ 9 ∧ v m = nI k) → -(9 * n : Int) ≤ (psm k p w v party x y n).toInt ∧ (psm k p w v party x y n).toInt ≤ 9 * n := by
  intro n
  induction n with
  | zero => intro _ _; exact ⟨by show _ ≤ (0 : Int32).toInt; decide, by show (0 : Int32).toInt ≤ _; decide⟩
  | succ n ih =>
    intro hn hv
    obtain ⟨i1, i2⟩ := ih (by omega) (fun m hm => hv m (by omega))
    obtain ⟨c, hc, ec⟩ := hv n (by omega)
    have hb : -(9 : Int) ≤ (if (k n = 3 ∨ k n = 4) ∧ p n = party then sgn (w n x) (w n y) * v n else 0).toInt ∧ (if (k n = 3 ∨ k n = 4) ∧ p n = party then sgn (w n x) (w n y) * v n else 0).toInt ≤ 9 := by
      rw [Int32.mul_comm, mul_sgn, ec]
      have e1 : (nI c).toInt = c := nI_toInt (by omega)
      have e2 : (-nI c).toInt = -(c : Int) := sb_negT (by omega)
      split
      · split
        · rw [e1]; omega
        · split
          · rw [e2]; omega
          · decide
      · decide
    unfold psm
    rw [add_toInt (by omega) (by omega)]
    omega
section
variable {X : pm_X} {PR : pm_P} {S : pm_S} {z : Nat → Int32} {b f w u : Nat → Nat → Int32} {N : Nat}
def h_lin (f w : Nat → Nat → Int32) (N : Nat) (party : Int32) (x y : Nat) : Int32 := sg0 (psm (fun m => f m 1) (fun m => f m 3) w (fun m => f m 2) party x y N)
theorem r_Hall_drawLines (hP : pm_np PR) {d : Nat} (hd : 2 ≤ d) (hH : HR S z b f w u) (hz : z 0 = nI N) (hN : N ≤ 9) (hv : ∀ m, m < N → ∃ k, k ≤ 9 ∧ f m 2 = nI k) (hp : ∀ m, m < N → (f m 1 = 3 ∨ f m 1 = 4) → ∃ q, q < 3 ∧ f m 3 = nI q) {A B x y : Nat} (hA : A < 64) (hB : B < 64) (eA : b 0 A = nI x) (eB : b 0 B = nI y) (hx : x < 7) (hy : y < 7) :
    ∃ (S' : pm_S) (g : Nat → Int32), pm_run X pm_Ms PR d 16 [.ref 74, .int (nI A), .int (nI B)] S = some (none, S') ∧ HR S' z (va_up b 6 g) f w u ∧ hfr S S' ∧ ∀ p, p < 3 → g p = h_lin f w N (nI p) x y := by
  -- the last loop
  have last : ∀ (k e : Nat) (T : pm_S) (g : Nat → Int32) (L4 : Option Value), e + k = 3 → HR T z (va_up b 6 g) f w u → hfr S T → (∀ p, p < e → g p = h_lin f w N (nI p) x y) → (∀ p, e ≤ p → p < 3 → g p = psm (fun m => f m 1) (fun m => f m 3) w (fun m => f m 2) (nI p) x y N) →
      ∃ (S' : pm_S) (g : Nat → Int32), pm_to X pm_Ms (pm_run X pm_Ms PR (d - 1)) none cd_Hall_drawLines 6 ([some (.ref 74), some (.int (nI A)), some (.int (nI B)), some (.int (nI e)), L4], [], T) (none, S') ∧ HR S' z (va_up b 6 g) f w u ∧ hfr S S' ∧ ∀ p, p < 3 → g p = h_lin f w N (nI p) x y := by
    intro k
    induction k with
    | zero =>
      intro e T g L4 he HT FT h1 h2
      have e3 : e = 3 := by omega
      subst e3
      refine ⟨T, g, ?_, HT, FT, h1⟩
      refine pm_to.blk rfl ?_
      refine pe_iload rfl ?_
      refine pe_iconst (v := 3) rfl ?_
      refine pe_icmp_ge (tgt := 8) (nx := 7) rfl rfl (fun hc6 => ?_) (fun hc6 => ?_)
      · refine pm_to.blk rfl ?_
        exact pe_ret rfl rfl
      · exact absurd (show (3 : Int32) ≤ nI 3 by decide) hc6
    | succ k ih =>
      intro e T g L4 he HT FT h1 h2
      have he3 : e < 3 := by omega
      obtain ⟨bd1, bd2⟩ := psm_bd (k := fun m => f m 1) (p := fun m => f m 3) (w := w) (v := fun m => f m 2) (party := nI e) (x := x) (y := y) N hN hv
      have hge := h2 e (Nat.le_refl _) he3
      have hsg := r_Integer_signum (X := X) (S := T) hP (d := d - 1) (by omega) (g e) (by rw [hge]; omega)
      have H5 := HT.putB 6 (by decide) (upd g e (sg0 (g e)))
      have eU : va_up (va_up b 6 g) 6 (upd g e (sg0 (g e))) = va_up b 6 (upd g e (sg0 (g e))) := bx_uu _ _ _ _
      rw [eU] at H5
      obtain ⟨S', g', i1, i2⟩ := ih (e + 1) _ _ L4 (by omega) H5 (FT.trans (hfr.put (by decide))) (fun p hp => by
        by_cases hpe : p = e
        · subst hpe; rw [pk_us, hge]; rfl
        · rw [pk_un hpe]; exact h1 p (by omega)) (fun p hp1 hp2 => by rw [pk_un (by omega)]; exact h2 p (by omega) hp2)
      refine ⟨S', g', ?_, i2⟩
      refine pm_to.blk rfl ?_
      refine pe_iload rfl ?_
      refine pe_iconst (v := 3) rfl ?_
      refine pe_icmp_ge (tgt := 8) (nx := 7) rfl rfl (fun hc6 => ?_) (fun hc6 => ?_)
      · exact absurd hc6 (nI_ge (a := e) (b := 3) he3 (by decide))
      · refine pm_to.blk rfl ?_
        refine pe_aload rfl ?_
        refine pe_getf HT.o rfl rfl ?_
        refine pe_iload rfl ?_
        refine pe_aload rfl ?_
        refine pe_getf HT.o rfl rfl ?_
        refine pe_iload rfl ?_
        refine pe_ialdN (HT.ar 6 (by decide)) rfl he3 (by decide) ?_
        refine pe_static rfl rfl (hsg) ?_
        refine pe_iastN (HT.ar 6 (by decide)) rfl he3 (by decide) ?_
        refine pe_iinc (L' := [_, _, _, _, _]) rfl ((nI_succ e).symm) rfl ?_
        refine pe_goto (tgt := 6) rfl ?_
        exact i1
  -- the loop over the members
  have loop : ∀ (k m : Nat) (T : pm_S) (g : Nat → Int32), m + k = N → HR T z (va_up b 6 g) f w u → hfr S T → (∀ p, p < 3 → g p = psm (fun m => f m 1) (fun m => f m 3) w (fun m => f m 2) (nI p) x y m) →
      ∃ (S' : pm_S) (g : Nat → Int32), (∀ L4 : Option Value, pm_to X pm_Ms (pm_run X pm_Ms PR (d - 1)) none cd_Hall_drawLines 1 ([some (.ref 74), some (.int (nI A)), some (.int (nI B)), some (.int (nI m)), L4], [], T) (none, S')) ∧ HR S' z (va_up b 6 g) f w u ∧ hfr S S' ∧ ∀ p, p < 3 → g p = h_lin f w N (nI p) x y := by
    intro k
    induction k with
    | zero =>
      intro m T g hm HT FT h1
      have e : m = N := by omega
      subst e
      obtain ⟨S', g', i1, i2⟩ := last 3 0 T g none (by omega) HT FT (fun p hp => by omega) (fun p _ hp => h1 p hp)
      sorry
    | succ k ih =>
      intro m T g hm HT FT h1
      sorry
  sorry
end
