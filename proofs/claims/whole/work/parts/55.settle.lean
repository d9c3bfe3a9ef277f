/-! the class: the hall's votes; a tree is settled -/
theorem tab15 {x : Int32} {d a b c e f : Int} : pm_tab d 1 5 #[a, b, c, e, f] x = some (if x = 1 then a else if x = 2 then b else if x = 3 then c else if x = 4 then e else if x = 5 then f else d) := by
  unfold pm_tab
  by_cases h1 : x = 1
  · subst h1; rfl
  by_cases h2 : x = 2
  · subst h2; rfl
  by_cases h3 : x = 3
  · subst h3; rfl
  by_cases h4 : x = 4
  · subst h4; rfl
  by_cases h5 : x = 5
  · subst h5; rfl
  rw [if_neg h1, if_neg h2, if_neg h3, if_neg h4, if_neg h5, if_pos]
  have key : ∀ (z : Int32), x.toInt = z.toInt → x = z := fun z h => Int32.toInt_inj.mp h
  have e1 : ¬ x.toInt = 1 := fun h => h1 (key 1 h)
  have e2 : ¬ x.toInt = 2 := fun h => h2 (key 2 h)
  have e3 : ¬ x.toInt = 3 := fun h => h3 (key 3 h)
  have e4 : ¬ x.toInt = 4 := fun h => h4 (key 4 h)
  have e5 : ¬ x.toInt = 5 := fun h => h5 (key 5 h)
  omega
section
variable {X : pm_X} {PR : pm_P} {s : QST} {N p : Nat} {Q : QPost}
theorem w_Hall_sideOfBought (hP : pm_np PR) {d : Nat} (hd : 1 ≤ d) {m A B q : Nat} (hm : m < 9) (hA : A < 64) (hB : B < 64) (hq : q < 3) (eq : qF s (84 + 3 * m) 3 = nI q) (hk : Q (some (.int (if (qE s 80 A >>> (qF s (84 + 3 * m) 4 &&& 31)) &&& 1 = (qE s 80 B >>> (qF s (84 + 3 * m) 4 &&& 31)) &&& 1 then qE s 82 q else ((qE s 80 A >>> (qF s (84 + 3 * m) 4 &&& 31)) &&& 1) - ((qE s 80 B >>> (qF s (84 + 3 * m) 4 &&& 31)) &&& 1)))) s) : qP X PR d 18 [.ref 74, .ref (84 + 3 * m), .int (nI A), .int (nI B)] s Q := by
  refine qP.of (L := [_, _, _, _, _, _]) (by omega) (hP _ rfl) ms_Hall_sideOfBought rfl ?_
  show qW X PR (d - 1) (some .int) cd_Hall_sideOfBought 0 _ _ _ _
  refine qW.blk rfl ?_
  refine qv_aload rfl ?_
  refine qv_gr ly_74 ⟨rfl, rfl, rfl⟩ (by omega) ?_
  refine qv_iload rfl ?_
  refine qv_ia ly_80 rfl (by omega) (by decide) rfl ?_
  refine qv_aload rfl ?_
  refine qv_gi (mb_seat (m := m) (by omega)).1 ⟨rfl, rfl, rfl⟩ rfl ?_
  refine qv_ishr ?_
  refine qv_iconst (v := 1) rfl ?_
  refine qv_iand ?_
  refine qv_istore (L' := [_, _, _, _, _, _]) rfl ?_
  refine qv_aload rfl ?_
  refine qv_gr ly_74 ⟨rfl, rfl, rfl⟩ (by omega) ?_
  refine qv_iload rfl ?_
  refine qv_ia ly_80 rfl (by omega) (by decide) rfl ?_
  refine qv_aload rfl ?_
  refine qv_gi (mb_seat (m := m) (by omega)).1 ⟨rfl, rfl, rfl⟩ rfl ?_
  refine qv_ishr ?_
  refine qv_iconst (v := 1) rfl ?_
  refine qv_iand ?_
  refine qv_istore (L' := [_, _, _, _, _, _]) rfl ?_
  refine qv_iload rfl ?_
  refine qv_iload rfl ?_
  refine qv_icmp_ne (tgt := 2) (nx := 1) rfl rfl (fun hc0 => ?_) (fun hc0 => ?_)
  · rw [if_neg hc0] at hk
    refine qW.blk rfl ?_
    refine qv_iload rfl ?_
    refine qv_iload rfl ?_
    refine qv_isub ?_
    refine qv_nil (nx := 3) rfl ?_
    refine qW.blk rfl ?_
    refine qv_iret (rfl) ?_
    exact hk
  · rw [if_pos (Decidable.not_not.mp hc0)] at hk
    refine qW.blk rfl ?_
    refine qv_aload rfl ?_
    refine qv_gr ly_74 ⟨rfl, rfl, rfl⟩ (by omega) ?_
    refine qv_aload rfl ?_
    refine qv_gi (mb_seat (m := m) (by omega)).1 ⟨rfl, rfl, rfl⟩ (eq) ?_
    refine qv_ia ly_82 rfl (by omega) (by decide) rfl ?_
    refine qv_goto (tgt := 3) rfl ?_
    refine qW.blk rfl ?_
    refine qv_iret (rfl) ?_
    exact hk
theorem nI_c {k : Nat} : (nI k = 0 ↔ k % 4294967296 = 0) := by
  constructor
  · intro h
    have := congrArg (fun x : Int32 => x.toBitVec.toNat) h
    simpa [nI] using this
  · intro h
    apply Int32.toBitVec_inj.mp
    apply BitVec.eq_of_toNat_eq
    simpa [nI] using h
theorem w_Hall_voteOf (hP : pm_np PR) {d : Nat} (hd : 2 ≤ d) (hh : hok s N p) {m : Nat} (hm : m < N) {A B : Nat} {vA vB : NV} (hA : hnd s p A vA) (hB : hnd s p B vB) (hl : ∀ q, q < 3 → qE s 82 q = glin (hvw s N) (nI q) vA.1 vB.1) (hk : Q (some (.int (gvt (hvw s N) m vA vB))) s) : qP X PR d 17 [.ref 74, .ref (84 + 3 * m), .int (nI A), .int (nI B)] s Q := by
  obtain ⟨hz, hN, hst, hp5, hm0⟩ := hh
  obtain ⟨hkd, hvo, hpa, hso⟩ := hm0 m hm
  obtain ⟨a1, a2, a3, a4, a5, a6, a7⟩ := hA
  obtain ⟨b1, b2, b3, b4, b5, b6, b7⟩ := hB
  have hm9 : m < 9 := by omega
  obtain ⟨K, hK⟩ : ∃ K, qF s (84 + 3 * m) 1 = K := ⟨_, rfl⟩
  have hgK : gK (hvw s N) m = K := hK
  rw [hK] at hkd hpa hso
  refine qP.of (L := [_, _, _, _, _, _]) (by omega) (hP _ rfl) ms_Hall_voteOf rfl ?_
  show qW X PR (d - 1) (some .int) cd_Hall_voteOf 0 _ _ _ _
  by_cases k0 : K = 0
  · have e : gvt (hvw s N) m vA vB = qF s (84 + 3 * m) 2 * sgn (qE s (84 + 3 * m + 1) vA.1) (qE s (84 + 3 * m + 1) vB.1) := by
      unfold gvt gvot; rw [hgK, if_pos k0]; rfl
    rw [e] at hk
    subst k0
    refine qW.blk rfl ?_
    refine qv_aload rfl ?_
    refine qv_gi (mb_seat (m := m) (by omega)).1 ⟨rfl, rfl, rfl⟩ (hK) ?_
    refine qv_table (tab15) (tgt := 6) rfl ?_
    refine qW.blk rfl ?_
    refine qv_aload rfl ?_
    refine qv_gi (mb_seat (m := m) (by omega)).1 ⟨rfl, rfl, rfl⟩ rfl ?_
    refine qv_aload rfl ?_
    refine qv_aload rfl ?_
    refine qv_gr ly_74 ⟨rfl, rfl, rfl⟩ (by omega) ?_
    refine qv_iload rfl ?_
    refine qv_ia ly_76 rfl (by omega) (by decide) (a2) ?_
    refine qv_aload rfl ?_
    refine qv_gr ly_74 ⟨rfl, rfl, rfl⟩ (by omega) ?_
    refine qv_iload rfl ?_
    refine qv_ia ly_76 rfl (by omega) (by decide) (b2) ?_
    refine qv_virtE ((mb_seat (m := m) (by omega)).1.rcv _) sg_Member_leaning rfl rfl (r_seat_lean hP (by omega) hm9 a3 b3) ?_
    refine qv_imul ?_
    refine qv_iret (rfl) ?_
    exact hk
  by_cases k1 : K = 1
  · have e : gvt (hvw s N) m vA vB = qF s (84 + 3 * m) 2 * sgn (qE s (84 + 3 * m + 1) vA.2.1) (qE s (84 + 3 * m + 1) vB.2.1) := by
      unfold gvt gvot; rw [hgK, if_neg k0, if_pos k1]; rfl
    rw [e] at hk
    subst k1
    refine qW.blk rfl ?_
    refine qv_aload rfl ?_
    refine qv_gi (mb_seat (m := m) (by omega)).1 ⟨rfl, rfl, rfl⟩ (hK) ?_
    refine qv_table (tab15) (tgt := 1) rfl ?_
    refine qW.blk rfl ?_
    refine qv_aload rfl ?_
    refine qv_gi (mb_seat (m := m) (by omega)).1 ⟨rfl, rfl, rfl⟩ rfl ?_
    refine qv_aload rfl ?_
    refine qv_aload rfl ?_
    refine qv_gr ly_74 ⟨rfl, rfl, rfl⟩ (by omega) ?_
    refine qv_iload rfl ?_
    refine qv_ia ly_77 rfl (by omega) (by decide) (a4) ?_
    refine qv_aload rfl ?_
    refine qv_gr ly_74 ⟨rfl, rfl, rfl⟩ (by omega) ?_
    refine qv_iload rfl ?_
    refine qv_ia ly_77 rfl (by omega) (by decide) (b4) ?_
    refine qv_virtE ((mb_seat (m := m) (by omega)).1.rcv _) sg_Member_leaning rfl rfl (r_seat_lean hP (by omega) hm9 a5 b5) ?_
    refine qv_imul ?_
    refine qv_iret (rfl) ?_
    exact hk
  by_cases k2 : K = 2
  · obtain ⟨q, hq, eq⟩ := hso k2
    have eU : gU (hvw s N) m = q := by
      show (qF s (84 + 3 * m) 3).toNatClampNeg = q
      rw [eq, nI_clamp (by omega)]
    have e : gvt (hvw s N) m vA vB = qF s (84 + 3 * m) 2 * sgn (qE s (84 + 3 * m + 1) (vA.2.2.1 q)) (qE s (84 + 3 * m + 1) (vB.2.2.1 q)) := by
      unfold gvt gvot; rw [hgK, if_neg k0, if_neg k1, if_pos k2, eU]; rfl
    rw [e] at hk
    subst k2
    have e3 : qE s 81 (q * 64 + A) = nI (vA.2.2.1 q) := by rw [Nat.mul_comm]; exact (a6 q hq).1
    have e4 : qE s 81 (q * 64 + B) = nI (vB.2.2.1 q) := by rw [Nat.mul_comm]; exact (b6 q hq).1
    refine qW.blk rfl ?_
    refine qv_aload rfl ?_
    refine qv_gi (mb_seat (m := m) (by omega)).1 ⟨rfl, rfl, rfl⟩ (hK) ?_
    refine qv_table (tab15) (tgt := 2) rfl ?_
    refine qW.blk rfl ?_
    refine qv_aload rfl ?_
    refine qv_gi (mb_seat (m := m) (by omega)).1 ⟨rfl, rfl, rfl⟩ (eq) ?_
    refine qv_iconst (v := 64) rfl ?_
    refine qv_imulN (q := 64) rfl rfl ?_
    refine qv_istore (L' := [_, _, _, _, _, _]) rfl ?_
    refine qv_aload rfl ?_
    refine qv_gi (mb_seat (m := m) (by omega)).1 ⟨rfl, rfl, rfl⟩ rfl ?_
    refine qv_aload rfl ?_
    refine qv_aload rfl ?_
    refine qv_gr ly_74 ⟨rfl, rfl, rfl⟩ (by omega) ?_
    refine qv_iload rfl ?_
    refine qv_iload rfl ?_
    refine qv_iaddN rfl rfl ?_
    refine qv_ia ly_81 rfl (by omega) (by decide) (e3) ?_
    refine qv_aload rfl ?_
    refine qv_gr ly_74 ⟨rfl, rfl, rfl⟩ (by omega) ?_
    refine qv_iload rfl ?_
    refine qv_iload rfl ?_
    refine qv_iaddN rfl rfl ?_
    refine qv_ia ly_81 rfl (by omega) (by decide) (e4) ?_
    refine qv_virtE ((mb_seat (m := m) (by omega)).1.rcv _) sg_Member_leaning rfl rfl (r_seat_lean hP (by omega) hm9 (a6 q hq).2 (b6 q hq).2) ?_
    refine qv_imul ?_
    refine qv_iret (rfl) ?_
    exact hk
  by_cases k3 : K = 3
  · obtain ⟨q, hq, eq⟩ := hpa (Or.inl k3)
    have e : gvt (hvw s N) m vA vB = qF s (84 + 3 * m) 2 * qE s 82 q := by
      unfold gvt gvot; rw [hgK, if_neg k0, if_neg k1, if_neg k2, if_pos k3, hl q hq, show gP (hvw s N) m = nI q from eq]; rfl
    rw [e] at hk
    subst k3
    refine qW.blk rfl ?_
    refine qv_aload rfl ?_
    refine qv_gi (mb_seat (m := m) (by omega)).1 ⟨rfl, rfl, rfl⟩ (hK) ?_
    refine qv_table (tab15) (tgt := 3) rfl ?_
    refine qW.blk rfl ?_
    refine qv_aload rfl ?_
    refine qv_gi (mb_seat (m := m) (by omega)).1 ⟨rfl, rfl, rfl⟩ rfl ?_
    refine qv_aload rfl ?_
    refine qv_gr ly_74 ⟨rfl, rfl, rfl⟩ (by omega) ?_
    refine qv_aload rfl ?_
    refine qv_gi (mb_seat (m := m) (by omega)).1 ⟨rfl, rfl, rfl⟩ (eq) ?_
    refine qv_ia ly_82 rfl (by omega) (by decide) rfl ?_
    refine qv_imul ?_
    refine qv_iret (rfl) ?_
    exact hk
  by_cases k4 : K = 4
  · obtain ⟨q, hq, eq⟩ := hpa (Or.inr k4)
    have e : gvt (hvw s N) m vA vB = qF s (84 + 3 * m) 2 * (if (qE s 80 A >>> (qF s (84 + 3 * m) 4 &&& 31)) &&& 1 = (qE s 80 B >>> (qF s (84 + 3 * m) 4 &&& 31)) &&& 1 then qE s 82 q else ((qE s 80 A >>> (qF s (84 + 3 * m) 4 &&& 31)) &&& 1) - ((qE s 80 B >>> (qF s (84 + 3 * m) 4 &&& 31)) &&& 1)) := by
      unfold gvt gvot
      rw [hgK, if_neg k0, if_neg k1, if_neg k2, if_neg k3, if_pos k4, hl q hq, a7, b7, show gP (hvw s N) m = nI q from eq]
      show (if (vA.2.2.2.1 >>> (qF s (84 + 3 * m) 4 &&& 31)) &&& 1 = (vB.2.2.2.1 >>> (qF s (84 + 3 * m) 4 &&& 31)) &&& 1 then qF s (84 + 3 * m) 2 * _ else qF s (84 + 3 * m) 2 * _) = _
      split <;> rfl
    rw [e] at hk
    subst k4
    refine qW.blk rfl ?_
    refine qv_aload rfl ?_
    refine qv_gi (mb_seat (m := m) (by omega)).1 ⟨rfl, rfl, rfl⟩ (hK) ?_
    refine qv_table (tab15) (tgt := 4) rfl ?_
    refine qW.blk rfl ?_
    refine qv_aload rfl ?_
    refine qv_gi (mb_seat (m := m) (by omega)).1 ⟨rfl, rfl, rfl⟩ rfl ?_
    refine qv_aload rfl ?_
    refine qv_aload rfl ?_
    refine qv_iload rfl ?_
    refine qv_iload rfl ?_
    refine qv_virt (ly_74.rcv _) sg_Hall_sideOfBought rfl rfl (w_Hall_sideOfBought hP (by omega) hm9 a1 b1 hq eq ?_) 
    refine qv_imul ?_
    refine qv_iret (rfl) ?_
    exact hk
  have k5 : K = 5 := by
    obtain ⟨k, hk5, ek⟩ := hkd
    rcases (show k = 0 ∨ k = 1 ∨ k = 2 ∨ k = 3 ∨ k = 4 ∨ k = 5 by omega) with rfl | rfl | rfl | rfl | rfl | rfl
    · exact absurd ek k0
    · exact absurd ek k1
    · exact absurd ek k2
    · exact absurd ek k3
    · exact absurd ek k4
    · exact ek
  have e : gvt (hvw s N) m vA vB = qF s (84 + 3 * m) 2 / 2 * sgn (qE s (84 + 3 * m + 1) vA.1) (qE s (84 + 3 * m + 1) vB.1) + (qF s (84 + 3 * m) 2 - qF s (84 + 3 * m) 2 / 2) * sgn (qE s (84 + 3 * m + 1) vA.2.1) (qE s (84 + 3 * m + 1) vB.2.1) := by
    unfold gvt gvot; rw [hgK, if_neg k0, if_neg k1, if_neg k2, if_neg k3, if_neg k4]; rfl
  rw [e] at hk
  subst k5
  refine qW.blk rfl ?_
  refine qv_aload rfl ?_
  refine qv_gi (mb_seat (m := m) (by omega)).1 ⟨rfl, rfl, rfl⟩ (hK) ?_
  refine qv_table (tab15) (tgt := 5) rfl ?_
  refine qW.blk rfl ?_
  refine qv_aload rfl ?_
  refine qv_gi (mb_seat (m := m) (by omega)).1 ⟨rfl, rfl, rfl⟩ rfl ?_
  refine qv_iconst (v := 2) rfl ?_
  refine qv_idiv (by decide) ?_
  refine qv_istore (L' := [_, _, _, _, _, _]) rfl ?_
  refine qv_iload rfl ?_
  refine qv_aload rfl ?_
  refine qv_aload rfl ?_
  refine qv_gr ly_74 ⟨rfl, rfl, rfl⟩ (by omega) ?_
  refine qv_iload rfl ?_
  refine qv_ia ly_76 rfl (by omega) (by decide) (a2) ?_
  refine qv_aload rfl ?_
  refine qv_gr ly_74 ⟨rfl, rfl, rfl⟩ (by omega) ?_
  refine qv_iload rfl ?_
  refine qv_ia ly_76 rfl (by omega) (by decide) (b2) ?_
  refine qv_virtE ((mb_seat (m := m) (by omega)).1.rcv _) sg_Member_leaning rfl rfl (r_seat_lean hP (by omega) hm9 a3 b3) ?_
  refine qv_imul ?_
  refine qv_aload rfl ?_
  refine qv_gi (mb_seat (m := m) (by omega)).1 ⟨rfl, rfl, rfl⟩ rfl ?_
  refine qv_iload rfl ?_
  refine qv_isub ?_
  refine qv_aload rfl ?_
  refine qv_aload rfl ?_
  refine qv_gr ly_74 ⟨rfl, rfl, rfl⟩ (by omega) ?_
  refine qv_iload rfl ?_
  refine qv_ia ly_77 rfl (by omega) (by decide) (a4) ?_
  refine qv_aload rfl ?_
  refine qv_gr ly_74 ⟨rfl, rfl, rfl⟩ (by omega) ?_
  refine qv_iload rfl ?_
  refine qv_ia ly_77 rfl (by omega) (by decide) (b4) ?_
  refine qv_virtE ((mb_seat (m := m) (by omega)).1.rcv _) sg_Member_leaning rfl rfl (r_seat_lean hP (by omega) hm9 a5 b5) ?_
  refine qv_imul ?_
  refine qv_iadd ?_
  refine qv_iret (rfl) ?_
  exact hk
theorem w_Hall_votesFor (hP : pm_np PR) {d : Nat} (hd : 3 ≤ d) (hh : hok s N p) {A B : Nat} {vA vB : NV} (hA : hnd s p A vA) (hB : hnd s p B vB) (hk : ∀ s', qfr 82 82 s s' → Q (some (.int (gsum (hvw s N) vA vB))) s') : qP X PR d 15 [.ref 74, .int (nI A), .int (nI B)] s Q := by
  refine qP.of (L := [_, _, _, _, _]) (by omega) (hP _ rfl) ms_Hall_votesFor rfl ?_
  show qW X PR (d - 1) (some .int) cd_Hall_votesFor 0 _ _ _ _
  refine qW.blk rfl ?_
  refine qv_aload rfl ?_
  refine qv_iload rfl ?_
  refine qv_iload rfl ?_
  refine qv_virt (ly_74.rcv _) sg_Hall_drawLines rfl rfl (w_Hall_drawLines hP (by omega) hh hA.1 hB.1 hA.2.1 hB.2.1 hA.2.2.1 hB.2.2.1 (fun s1 F1 hl => ?_)) 
  refine qv_iconst (v := 0) rfl ?_
  refine qv_istore (L' := [_, _, _, _, _]) rfl ?_
  refine qv_iconst (v := 0) rfl ?_
  refine qv_istore (L' := [_, _, _, _, _]) rfl ?_
  refine qv_nil (nx := 1) rfl ?_
  have hh1 := hh.cg F1 (by omega) (by omega)
  have ew := hvw_cg F1 (by omega) (by omega) N
  obtain ⟨hz, hN, -, -, -⟩ := hh1
  rw [← ew] at hl hk
  have loop : ∀ (k m : Nat), m + k = N → qW X PR (d - 1) (some .int) cd_Hall_votesFor 1 [some (.ref (74)), some (.int (nI A)), some (.int (nI B)), some (.int (sv (fun m => gvt (hvw s1 N) m vA vB) m)), some (.int (nI m))] [] s1 Q := by
    intro k
    induction k with
    | zero =>
      intro m hm
      have e : m = N := by omega
      subst e
      refine qW.blk rfl ?_
      refine qv_iload rfl ?_
      refine qv_aload rfl ?_
      refine qv_gi ly_74 ⟨rfl, rfl, rfl⟩ (hz) ?_
      refine qv_icmp_geNt rfl rfl (by omega) (by omega) (by omega) (tgt := 3) rfl ?_
      refine qW.blk rfl ?_
      refine qv_iload rfl ?_
      refine qv_iret (rfl) ?_
      exact hk s1 F1
    | succ k ih =>
      intro m hm
      refine qW.blk rfl ?_
      refine qv_iload rfl ?_
      refine qv_aload rfl ?_
      refine qv_gi ly_74 ⟨rfl, rfl, rfl⟩ (hz) ?_
      refine qv_icmp_geNf rfl rfl (by omega) (by omega) (by omega) (nx := 2) rfl ?_
      refine qW.blk rfl ?_
      refine qv_iload rfl ?_
      refine qv_aload rfl ?_
      refine qv_aload rfl ?_
      refine qv_gr ly_74 ⟨rfl, rfl, rfl⟩ (by omega) ?_
      refine qv_iload rfl ?_
      refine qv_aa (j := m) (r := 84 + 3 * m) ly_75 rfl (show _ < 9 by omega) (by decide) rfl ?_
      refine qv_iload rfl ?_
      refine qv_iload rfl ?_
      refine qv_virt (ly_74.rcv _) sg_Hall_voteOf rfl rfl (w_Hall_voteOf hP (by omega) (hh.cg F1 (by omega) (by omega)) (m := m) (by omega) (hA.fr F1 (by omega)) (hB.fr F1 (by omega)) hl ?_) 
      refine qv_iadd ?_
      refine qv_istore (L' := [_, _, _, _, _]) rfl ?_
      refine qv_iinc (L' := [_, _, _, _, _]) rfl (nI_succ _).symm rfl ?_
      refine qv_goto (tgt := 1) rfl ?_
      exact ih (m + 1) (by omega)
  exact loop N 0 (by omega)
theorem w_Hall_voteIn (hP : pm_np PR) {d : Nat} (hd : 3 ≤ d) (hh : hok s N p) {m : Nat} (hm : m < N) {A B : Nat} {vA vB : NV} (hA : hnd s p A vA) (hB : hnd s p B vB) (hk : ∀ s', qfr 82 82 s s' → Q (some (.int (gvt (hvw s N) m vA vB))) s') : qP X PR d 25 [.ref 74, .int (nI A), .int (nI B), .int (nI m)] s Q := by
  have hN := hh.2.1
  refine qP.of (L := [_, _, _, _]) (by omega) (hP _ rfl) ms_Hall_voteIn rfl ?_
  show qW X PR (d - 1) (some .int) cd_Hall_voteIn 0 _ _ _ _
  refine qW.blk rfl ?_
  refine qv_aload rfl ?_
  refine qv_iload rfl ?_
  refine qv_iload rfl ?_
  refine qv_virt (ly_74.rcv _) sg_Hall_drawLines rfl rfl (w_Hall_drawLines hP (by omega) hh hA.1 hB.1 hA.2.1 hB.2.1 hA.2.2.1 hB.2.2.1 (fun s1 F1 hl => ?_)) 
  refine qv_aload rfl ?_
  refine qv_aload rfl ?_
  refine qv_gr ly_74 ⟨rfl, rfl, rfl⟩ (by omega) ?_
  refine qv_iload rfl ?_
  refine qv_aa (j := m) (r := 84 + 3 * m) ly_75 rfl (show _ < 9 by omega) (by decide) rfl ?_
  refine qv_iload rfl ?_
  refine qv_iload rfl ?_
  refine qv_virt (ly_74.rcv _) sg_Hall_voteOf rfl rfl (w_Hall_voteOf hP (by omega) (hh.cg F1 (by omega) (by omega)) (m := m) hm (hA.fr F1 (by omega)) (hB.fr F1 (by omega)) (by rw [hvw_cg F1 (by omega) (by omega)]; exact hl) ?_) 
  refine qv_iret (rfl) ?_
  rw [hvw_cg F1 (by omega) (by omega)]
  exact hk s1 F1
theorem w_Hall_settleEnd (hP : pm_np PR) {d : Nat} (hd : 1 ≤ d) (hp : qF s 74 2 = nI p) (hp5 : p ≤ 5) {n x : Nat} (hn : n < 64) (hx : x < 7) (hk : ∀ s', qfr 76 81 s s' → hnf n s s' → hnd s' p n (nv_leaf x) → Q none s') : qP X PR d 24 [.ref 74, .int (nI n), .int (nI x)] s Q := by
  refine qP.of (L := [_, _, _, _]) (by omega) (hP _ rfl) ms_Hall_settleEnd rfl ?_
  show qW X PR (d - 1) (none) cd_Hall_settleEnd 0 _ _ _ _
  have loop : ∀ (k e : Nat) (s1 : QST), e + k = p + 1 → qfr 76 81 s s1 → hnf n s s1 → qE s1 76 n = nI x → qE s1 77 n = nI x → qE s1 80 n = 1 <<< (nI x &&& 31) → (∀ q, q < e → qE s1 81 (64 * q + n) = nI x) → qW X PR (d - 1) (none) cd_Hall_settleEnd 1 [some (.ref (74)), some (.int (nI n)), some (.int (nI x)), some (.int (nI e))] [] s1 Q := by
    intro k
    induction k with
    | zero =>
      intro e s1 he F1 F2 h1 h2 h3 h4
      refine qW.blk rfl ?_
      refine qv_iload rfl ?_
      refine qv_aload rfl ?_
      refine qv_gi ly_74 ⟨rfl, rfl, rfl⟩ ((F1.f (by omega)).trans hp) ?_
      refine qv_icmp_gtNt rfl rfl (by omega) (by omega) (by omega) (tgt := 3) rfl ?_
      refine qW.blk rfl ?_
      refine qv_ret rfl ?_
      exact hk s1 F1 F2 ⟨hn, h1, hx, h2, hx, fun q hq => ⟨h4 q (by omega), hx⟩, h3⟩
    | succ k ih =>
      intro e s1 he F1 F2 h1 h2 h3 h4
      refine qW.blk rfl ?_
      refine qv_iload rfl ?_
      refine qv_aload rfl ?_
      refine qv_gi ly_74 ⟨rfl, rfl, rfl⟩ ((F1.f (by omega)).trans hp) ?_
      refine qv_icmp_gtNf rfl rfl (by omega) (by omega) (by omega) (nx := 2) rfl ?_
      refine qW.blk rfl ?_
      refine qv_aload rfl ?_
      refine qv_gr ly_74 ⟨rfl, rfl, rfl⟩ (by omega) ?_
      refine qv_iload rfl ?_
      refine qv_iconst (v := 64) rfl ?_
      refine qv_imulN (q := 64) rfl rfl ?_
      refine qv_iload rfl ?_
      refine qv_iaddN rfl rfl ?_
      refine qv_iload rfl ?_
      refine qv_is ly_81 rfl (by omega) (by decide) ?_
      refine qv_iinc (L' := [_, _, _, _]) rfl (nI_succ _).symm rfl ?_
      refine qv_goto (tgt := 1) rfl ?_
      rw [Nat.mul_comm e 64]
      refine ih (e + 1) _ (by omega) (F1.uE (by omega)) (F2.s81 hn) ?_ ?_ ?_ (fun q hq => ?_)
      · rw [qE_uEc (by omega)]; exact h1
      · rw [qE_uEc (by omega)]; exact h2
      · rw [qE_uEc (by omega)]; exact h3
      · by_cases hqe : q = e
        · subst hqe; rw [qE_uEs]
        · rw [qE_uEk (by omega)]; exact h4 q (by omega)
  refine qW.blk rfl ?_
  refine qv_aload rfl ?_
  refine qv_gr ly_74 ⟨rfl, rfl, rfl⟩ (by omega) ?_
  refine qv_iload rfl ?_
  refine qv_iload rfl ?_
  refine qv_is ly_76 rfl (by omega) (by decide) ?_
  refine qv_aload rfl ?_
  refine qv_gr ly_74 ⟨rfl, rfl, rfl⟩ (by omega) ?_
  refine qv_iload rfl ?_
  refine qv_iload rfl ?_
  refine qv_is ly_77 rfl (by omega) (by decide) ?_
  refine qv_aload rfl ?_
  refine qv_gr ly_74 ⟨rfl, rfl, rfl⟩ (by omega) ?_
  refine qv_iload rfl ?_
  refine qv_iconst (v := 1) rfl ?_
  refine qv_iload rfl ?_
  refine qv_ishl ?_
  refine qv_is ly_80 rfl (by omega) (by decide) ?_
  refine qv_iconst (v := 0) rfl ?_
  refine qv_istore (L' := [_, _, _, _]) rfl ?_
  refine qv_nil (nx := 1) rfl ?_
  refine loop (p + 1) 0 _ (by omega) ((((qfr.rf s).uE (by omega)).uE (by omega)).uE (by omega)) ((((hnf.rf n s).sE (by omega)).sE (by omega)).sE (by omega)) ?_ ?_ ?_ (fun q hq => by omega)
  · rw [qE_uEc (by omega), qE_uEc (by omega), qE_uEs]
  · rw [qE_uEc (by omega), qE_uEs]
  · rw [qE_uEs]
theorem w_Hall_settleChoice (hP : pm_np PR) {d : Nat} (hd : 1 ≤ d) (hp : qF s 74 2 = nI p) (hp5 : p ≤ 5) {n A B x y : Nat} {W : VW} (hn : n < 64) {vA vB : NV} (hA : hnd s p A vA) (hB : hnd s p B vB) (hAn : A ≠ n) (hBn : B ≠ n) (hk : ∀ s', qfr 76 81 s s' → hnf n s s' → hnd s' p n (gc W x y vA vB) → Q none s') : qP X PR d 23 [.ref 74, .int (nI n), .int (nI A), .int (nI B), .int (bI (gbts W x y))] s Q := by
  obtain ⟨C, vC, hC, hCn, hCd, hcv⟩ : ∃ (C : Nat) (vC : NV), hnd s p C vC ∧ C ≠ n ∧ C = (if gbts W x y then A else B) ∧ gc W x y vA vB = (vC.1, vC.2.1, vC.2.2.1, vA.2.2.2.1 ||| vB.2.2.2.1, 0, 0) := by
    unfold gc
    by_cases hb : gbts W x y
    · exact ⟨A, vA, hA, hAn, by rw [if_pos hb], by rw [if_pos hb]⟩
    · exact ⟨B, vB, hB, hBn, by rw [if_neg hb], by rw [if_neg hb]⟩
  rw [hcv] at hk
  have hA1 := hA.1
  have hB1 := hB.1
  have iA := hA.2.2.2.2.2.2
  have iB := hB.2.2.2.2.2.2
  obtain ⟨c1, c2, c3, c4, c5, c6, c7⟩ := hC
  refine qP.of (L := [_, _, _, _, _, _, _]) (by omega) (hP _ rfl) ms_Hall_settleChoice rfl ?_
  show qW X PR (d - 1) (none) cd_Hall_settleChoice 0 _ _ _ _
  have loop : ∀ (k e : Nat) (s1 : QST), e + k = p + 1 → qfr 76 81 s s1 → hnf n s s1 → qE s1 76 n = nI vC.1 → qE s1 77 n = nI vC.2.1 → qE s1 80 n = vA.2.2.2.1 ||| vB.2.2.2.1 → (∀ q, q < e → qE s1 81 (64 * q + n) = nI (vC.2.2.1 q)) → qW X PR (d - 1) (none) cd_Hall_settleChoice 4 [some (.ref (74)), some (.int (nI n)), some (.int (nI A)), some (.int (nI B)), some (.int (bI (gbts W x y))), some (.int (nI C)), some (.int (nI e))] [] s1 Q := by
    intro k
    induction k with
    | zero =>
      intro e s1 he F1 F2 h1 h2 h3 h4
      refine qW.blk rfl ?_
      refine qv_iload rfl ?_
      refine qv_aload rfl ?_
      refine qv_gi ly_74 ⟨rfl, rfl, rfl⟩ ((F1.f (by omega)).trans hp) ?_
      refine qv_icmp_gtNt rfl rfl (by omega) (by omega) (by omega) (tgt := 6) rfl ?_
      refine qW.blk rfl ?_
      refine qv_ret rfl ?_
      exact hk s1 F1 F2 ⟨hn, h1, c3, h2, c5, fun q hq => ⟨h4 q (by omega), (c6 q hq).2⟩, h3⟩
    | succ k ih =>
      intro e s1 he F1 F2 h1 h2 h3 h4
      have e2 : qE s1 81 (e * 64 + C) = nI (vC.2.2.1 e) := by rw [Nat.mul_comm, (F2 C c1 hCn).2]; exact (c6 e (by omega)).1
      refine qW.blk rfl ?_
      refine qv_iload rfl ?_
      refine qv_aload rfl ?_
      refine qv_gi ly_74 ⟨rfl, rfl, rfl⟩ ((F1.f (by omega)).trans hp) ?_
      refine qv_icmp_gtNf rfl rfl (by omega) (by omega) (by omega) (nx := 5) rfl ?_
      refine qW.blk rfl ?_
      refine qv_aload rfl ?_
      refine qv_gr ly_74 ⟨rfl, rfl, rfl⟩ (by omega) ?_
      refine qv_iload rfl ?_
      refine qv_iconst (v := 64) rfl ?_
      refine qv_imulN (q := 64) rfl rfl ?_
      refine qv_iload rfl ?_
      refine qv_iaddN rfl rfl ?_
      refine qv_aload rfl ?_
      refine qv_gr ly_74 ⟨rfl, rfl, rfl⟩ (by omega) ?_
      refine qv_iload rfl ?_
      refine qv_iconst (v := 64) rfl ?_
      refine qv_imulN (q := 64) rfl rfl ?_
      refine qv_iload rfl ?_
      refine qv_iaddN rfl rfl ?_
      refine qv_ia ly_81 rfl (by omega) (by decide) (e2) ?_
      refine qv_is ly_81 rfl (by omega) (by decide) ?_
      refine qv_iinc (L' := [_, _, _, _, _, _, _]) rfl (nI_succ _).symm rfl ?_
      refine qv_goto (tgt := 4) rfl ?_
      rw [Nat.mul_comm e 64]
      refine ih (e + 1) _ (by omega) (F1.uE (by omega)) (F2.s81 hn) ?_ ?_ ?_ (fun q hq => ?_)
      · rw [qE_uEc (by omega)]; exact h1
      · rw [qE_uEc (by omega)]; exact h2
      · rw [qE_uEc (by omega)]; exact h3
      · by_cases hqe : q = e
        · subst hqe; rw [qE_uEs]
        · rw [qE_uEk (by omega)]; exact h4 q (by omega)
  have t3 : qW X PR (d - 1) (none) cd_Hall_settleChoice 3 [some (.ref (74)), some (.int (nI n)), some (.int (nI A)), some (.int (nI B)), some (.int (bI (gbts W x y))), none, none] [.int (nI C)] s Q := by
    have q2 : qE (uE s 76 n (nI vC.1)) 77 C = nI vC.2.1 := by rw [qE_uEc (by omega)]; exact c4
    have q3 : qE (uE (uE s 76 n (nI vC.1)) 77 n (nI vC.2.1)) 80 A = vA.2.2.2.1 := by rw [qE_uEc (by omega), qE_uEc (by omega)]; exact iA
    have q4 : qE (uE (uE s 76 n (nI vC.1)) 77 n (nI vC.2.1)) 80 B = vB.2.2.2.1 := by rw [qE_uEc (by omega), qE_uEc (by omega)]; exact iB
    refine qW.blk rfl ?_
    refine qv_istore (L' := [_, _, _, _, _, _, _]) rfl ?_
    refine qv_aload rfl ?_
    refine qv_gr ly_74 ⟨rfl, rfl, rfl⟩ (by omega) ?_
    refine qv_iload rfl ?_
    refine qv_aload rfl ?_
    refine qv_gr ly_74 ⟨rfl, rfl, rfl⟩ (by omega) ?_
    refine qv_iload rfl ?_
    refine qv_ia ly_76 rfl (by omega) (by decide) (c2) ?_
    refine qv_is ly_76 rfl (by omega) (by decide) ?_
    refine qv_aload rfl ?_
    refine qv_gr ly_74 ⟨rfl, rfl, rfl⟩ (by omega) ?_
    refine qv_iload rfl ?_
    refine qv_aload rfl ?_
    refine qv_gr ly_74 ⟨rfl, rfl, rfl⟩ (by omega) ?_
    refine qv_iload rfl ?_
    refine qv_ia ly_77 rfl (by omega) (by decide) (q2) ?_
    refine qv_is ly_77 rfl (by omega) (by decide) ?_
    refine qv_aload rfl ?_
    refine qv_gr ly_74 ⟨rfl, rfl, rfl⟩ (by omega) ?_
    refine qv_iload rfl ?_
    refine qv_aload rfl ?_
    refine qv_gr ly_74 ⟨rfl, rfl, rfl⟩ (by omega) ?_
    refine qv_iload rfl ?_
    refine qv_ia ly_80 rfl (by omega) (by decide) (q3) ?_
    refine qv_aload rfl ?_
    refine qv_gr ly_74 ⟨rfl, rfl, rfl⟩ (by omega) ?_
    refine qv_iload rfl ?_
    refine qv_ia ly_80 rfl (by omega) (by decide) (q4) ?_
    refine qv_ior ?_
    refine qv_is ly_80 rfl (by omega) (by decide) ?_
    refine qv_iconst (v := 0) rfl ?_
    refine qv_istore (L' := [_, _, _, _, _, _, _]) rfl ?_
    refine qv_nil (nx := 4) rfl ?_
    refine loop (p + 1) 0 _ (by omega) ((((qfr.rf s).uE (by omega)).uE (by omega)).uE (by omega)) ((((hnf.rf n s).sE (by omega)).sE (by omega)).sE (by omega)) ?_ ?_ ?_ (fun q hq => by omega)
    · rw [qE_uEc (by omega), qE_uEc (by omega), qE_uEs]
    · rw [qE_uEc (by omega), qE_uEs]
    · rw [qE_uEs]
  refine qW.blk rfl ?_
  refine qv_iload rfl ?_
  refine qv_if_eqB (tgt := 2) (nx := 1) rfl rfl (fun hc0 => ?_) (fun hc0 => ?_)
  · rw [if_neg hc0] at hCd
    subst hCd
    refine qW.blk rfl ?_
    refine qv_iload rfl ?_
    refine qv_nil (nx := 3) rfl ?_
    exact t3
  · rw [if_pos hc0] at hCd
    subst hCd
    refine qW.blk rfl ?_
    refine qv_iload rfl ?_
    refine qv_goto (tgt := 3) rfl ?_
    exact t3
end
