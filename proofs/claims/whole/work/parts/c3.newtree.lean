/-! a TREE's object is made -/
theorem qhp_uR (s : QST) (R : List va_E) (N : Nat) : qhp (uR s R N) = ((List.range 196).map (fun j => qcel s (j + 8)) ++ R, N) := by
  have h : (fun j => qcel (uR s R N) (j + 8)) = (fun j => qcel s (j + 8)) := funext fun j => qcel_cg rfl rfl rfl rfl rfl
  unfold qhp
  rw [qR_uR, qN_uR, h]
theorem qhp_1 (s : QST) : (qhp s).1 = (List.range 196).map (fun j => qcel s (j + 8)) ++ qR s := by unfold qhp; rfl
theorem qhp_2 (s : QST) : (qhp s).2 = qN s := by unfold qhp; rfl
theorem qhp_set {s : QST} {a : Nat} {e : va_E} (ha : 204 ≤ a) : pm_put (qhp s) a e = qhp (uR s ((qR s).set (a - 204) e) (qN s)) := by
  unfold pm_put
  rw [qhp_1, qhp_2, qhp_uR, List.set_append_right _ _ (by simp; omega)]
  simp only [List.length_map, List.length_range]
  rw [show a - 8 - 196 = a - 204 by omega]
/-- the state with a TREE's object and rows behind -/
def trS (s : QST) (R : List va_E) (fs : List Value) (e1 e2 e3 : va_E) (N : Nat) : QST := uR s (R ++ [.inr (8, fs), e1, e2, e3]) N
theorem trS_get {s : QST} {R : List va_E} {fs : List Value} {e1 e2 e3 : va_E} {N k : Nat} {e : va_E} (h : [.inr (8, fs), e1, e2, e3][k]? = some e) : pm_h (qhp (trS s R fs e1 e2 e3 N)) (204 + R.length + k) e := by
  refine qhp_rest (by omega) ?_
  show (R ++ [.inr (8, fs), e1, e2, e3])[204 + R.length + k - 204]? = _
  rw [List.getElem?_append_right (by omega), show 204 + R.length + k - 204 - R.length = k by omega]
  exact h
theorem set_tr {R : List va_E} {a b c d x : va_E} : (R ++ [a, b, c, d]).set R.length x = R ++ [x, b, c, d] := by
  rw [List.set_append_right _ _ (Nat.le_refl _), Nat.sub_self]; rfl
theorem set_sn {R : List va_E} {a x : va_E} : (R ++ [a]).set R.length x = R ++ [x] := by
  rw [List.set_append_right _ _ (Nat.le_refl _), Nat.sub_self]; rfl
section
variable {X : pm_X} {PR : pm_P} {d : Nat} {ret : Option FieldType} {code : List (Nat × List Instr)} {b : Nat} {is : List Instr} {L : List (Option Value)} {st : List Value} {s : QST} {Q : QPost}
theorem qv_new {ci a : Nat} {fs : List Value} (hci : ci < 11) (ha : 204 + (qR s).length = a) (hfs : pm_blank ci = fs) (k : qV X PR d ret code b is L (.ref a :: st) (uR s (qR s ++ [.inr (ci, fs)]) (qN s + pm_N ci)) Q) : qV X PR d ret code b (.new ci :: is) L st s Q := by
  refine qV.of (fun _ z => pe_new hci (show 8 + (qhp s).1.length = a by rw [qhp_len]; omega) hfs ?_) k
  rw [qhp_uR, ← List.append_assoc] at z
  rw [qhp_1, qhp_2]
  exact z
theorem qv_newai {n : Int32} {j a : Nat} (hn : n = nI j) (hj : j < 100000) (ha : 204 + (qR s).length = a) (k : qV X PR d ret code b is L (.ref a :: st) (uR s (qR s ++ [.inl (0, j, .inl (fun _ => 0))]) (qN s + j)) Q) : qV X PR d ret code b (.newarray .int :: is) L (.int n :: st) s Q := by
  subst hn
  have hc := nI_clamp (n := j) (by omega)
  refine qV.of (fun _ z => pe_newai (fun h => ?_) (show 8 + (qhp s).1.length = a by rw [qhp_len]; omega) ?_) k
  · rcases h with h | h
    · exact nI_pos (n := j) (by omega) h
    · rw [hc] at h; omega
  · rw [qhp_uR, ← List.append_assoc] at z
    rw [hc, qhp_1, qhp_2]
    exact z
theorem qv_pt {n : Nat} {R : List va_E} {fs fs' : List Value} {e1 e2 e3 : va_E} {N : Nat} {v : Value} (hc : 8 = n / 64) (hl : n % 64 < fs.length) (hf : pm_fit (pm_ty (n / 64) (n % 64)) v = true) (he : fs.set (n % 64) v = fs') (k : qV X PR d ret code b is L st (trS s R fs' e1 e2 e3 N) Q) : qV X PR d ret code b (.putfield n :: is) L (v :: .ref (204 + R.length) :: st) (trS s R fs e1 e2 e3 N) Q := by
  refine qV.of (fun _ z => pe_putf (trS_get (k := 0) rfl) hc hl hf he ?_) k
  rw [qhp_set (by omega)]
  show pm_E X pm_Ms (pm_run X pm_Ms PR d) ret code b is (L, st, qhp (uR (trS s R fs e1 e2 e3 N) ((R ++ [.inr (8, fs), e1, e2, e3]).set (204 + R.length + 0 - 204) (.inr (8, fs'))) N)) _
  rw [show 204 + R.length + 0 - 204 = R.length by omega, set_tr]
  exact z
theorem qv_copyN {c K N : Nat} {R : List va_E} {g1 : Nat → Int32} (hl : qLY c (0, 120, [])) (hK : K < 120) (hs : (st.map fun v => v.category).sum ≤ 8) (k : qV X PR d ret code b is L st (uR s (R ++ [.inl (0, K, .inl (va_cpy (qE s c) g1 0 0 K))]) N) Q) : qV X PR d ret code b (.swap :: is) L (.int (nI K) :: .int 0 :: .ref (204 + R.length) :: .int 0 :: .ref c :: st) (uR s (R ++ [.inl (0, K, .inl g1)]) N) Q := by
  have hg : pm_get X (qhp (uR s (R ++ [.inl (0, K, .inl g1)]) N)).1 c = some (.inl (0, 120, .inl (qE s c))) := by
    have := (hl.a (uR s (R ++ [.inl (0, K, .inl g1)]) N)).get (X := X)
    rw [qE_uR] at this
    exact this
  have hh : pm_h (qhp (uR s (R ++ [.inl (0, K, .inl g1)]) N)) (204 + R.length) (.inl (0, K, .inl g1)) := by
    refine qhp_rest (by omega) ?_
    show (R ++ [.inl (0, K, .inl g1)])[204 + R.length - 204]? = _
    rw [List.getElem?_append_right (by omega), show 204 + R.length - 204 - R.length = 0 by omega]
    rfl
  have kk := nI_clamp (n := K) (by omega)
  have z0 : (0 : Int32).toNatClampNeg = 0 := rfl
  refine qV.of (fun _ z => pe_copy hs hg hh ?_ ?_) k
  · rw [kk, z0]
    have e3 := nI_pos (n := K) (by omega)
    intro h
    rcases h with h | h | h | h | h
    · exact absurd h (by decide)
    · exact absurd h (by decide)
    · exact e3 h
    · omega
    · omega
  · rw [kk, z0, qhp_set (by omega)]
    have e : (qR (uR s (R ++ [.inl (0, K, .inl g1)]) N)).set (204 + R.length - 204) (.inl (0, K, .inl (va_cpy (qE s c) g1 0 0 K))) = R ++ [.inl (0, K, .inl (va_cpy (qE s c) g1 0 0 K))] := by
      rw [qR_uR, show 204 + R.length - 204 = R.length by omega, set_sn]
    rw [e]
    exact z
end
section
variable {X : pm_X} {PR : pm_P} {s : QST} {Q : QPost}
theorem w_copyOf (hP : pm_np PR) {d : Nat} (hd : 1 ≤ d) {c K : Nat} (hl : qLY c (0, 120, [])) (hK : K < 120) (hk : Q (some (.ref (204 + (qR s).length))) (uR s (qR s ++ [.inl (0, K, .inl (va_cpy (qE s c) (fun _ => 0) 0 0 K))]) (qN s + K))) : qP X PR d 3 [.ref c, .int (nI K)] s Q := by
  refine qP.of (L := [_, _, _]) (by omega) (hP _ rfl) ms_Arrays_copyOf rfl ?_
  show qW X PR (d - 1) (some (.array .int)) cd_Arrays_copyOf 0 _ _ _ _
  refine qW.blk rfl ?_
  refine qv_iload rfl ?_
  refine qv_aload rfl ?_
  refine qv_al hl ?_
  refine qv_icmp_neNt rfl rfl (by omega) (by omega) (by omega) (tgt := 4) rfl ?_
  refine qW.blk rfl ?_
  refine qv_iload rfl ?_
  refine qv_newai rfl (by omega) rfl ?_
  refine qv_astore (L' := [_, _, _]) rfl ?_
  refine qv_aload rfl ?_
  refine qv_iconst (v := 0) rfl ?_
  refine qv_aload rfl ?_
  refine qv_iconst (v := 0) rfl ?_
  refine qv_aload rfl ?_
  refine qv_al hl ?_
  refine qv_iload rfl ?_
  refine qv_min (Nat.le_of_ble_eq_true rfl) ?_
  refine qv_top (show (if nI K < nI 120 then nI K else nI 120) = nI K from if_pos (nI_lt hK (by decide))) ?_
  refine qv_copyN hl hK (Nat.le_of_ble_eq_true rfl) ?_
  refine qv_aload rfl ?_
  exact qv_aret ⟨rfl, rfl⟩ hk
theorem orI {a b : Nat} (ha : a < 128) (hb : b < 128) : nI a ||| nI b = nI (a ||| b) := or_N (by omega) (by omega)
theorem w_Tree_init (hP : pm_np PR) {d : Nat} (hd : 1 ≤ d) {R : List va_E} {N K : Nat} {t : TR} {w sc pr : Nat → Int32} (hK : K ≤ 60) (ht : ctr t K w sc pr) (hk : Q none (trS s R [.int (nI K), .ref (204 + R.length + 1), .ref (204 + R.length + 2), .ref (204 + R.length + 3), .int (nI (qah t K)), .int (nI (orb t 0 K)), .int (nI (oab t K))] (.inl (0, K, .inl w)) (.inl (0, K, .inl sc)) (.inl (0, K, .inl pr)) N)) : qP X PR d 103 [.ref (204 + R.length), .int (nI K), .ref (204 + R.length + 1), .ref (204 + R.length + 2), .ref (204 + R.length + 3)] (trS s R [.int 0, .null, .null, .null, .int 0, .int 0, .int 0] (.inl (0, K, .inl w)) (.inl (0, K, .inl sc)) (.inl (0, K, .inl pr)) N) Q := by
  obtain ⟨s1, hs1⟩ : ∃ s1, s1 = trS s R [.int (nI K), .ref (204 + R.length + 1), .ref (204 + R.length + 2), .ref (204 + R.length + 3), .int 0, .int 0, .int 0] (.inl (0, K, .inl w)) (.inl (0, K, .inl sc)) (.inl (0, K, .inl pr)) N := ⟨_, rfl⟩
  have g1 : pm_h (qhp s1) (204 + R.length + 1) (.inl (0, K, .inl w)) := by rw [hs1]; exact trS_get (k := 1) rfl
  have g3 : pm_h (qhp s1) (204 + R.length + 3) (.inl (0, K, .inl pr)) := by rw [hs1]; exact trS_get (k := 3) rfl
  have loop : ∀ (c i : Nat), i + c = K → qW X PR (d - 1) (none) cd_Tree_init 1 [(some (.ref (204 + R.length))), some (.int (nI K)), some (.ref (204 + R.length + 1)), (some (.ref (204 + R.length + 2))), some (.ref (204 + R.length + 3)), some (.int (nI (qah t i))), some (.int (nI (orb t 0 i))), some (.int (nI (oab t i))), some (.int (nI i))] [] s1 Q := by
    intro c
    induction c with
    | zero =>
      intro i hi
      have e : i = K := by omega
      subst e
      refine qW.blk rfl ?_
      refine qv_iload rfl ?_
      refine qv_iload rfl ?_
      refine qv_icmp_geNt rfl rfl (by omega) (by omega) (by omega) (tgt := 8) rfl ?_
      rw [hs1]
      refine qW.blk rfl ?_
      refine qv_aload rfl ?_
      refine qv_iload rfl ?_
      refine qv_pt rfl (by show 4 < 7; decide) rfl rfl ?_
      refine qv_aload rfl ?_
      refine qv_iload rfl ?_
      refine qv_pt rfl (by show 5 < 7; decide) rfl rfl ?_
      refine qv_aload rfl ?_
      refine qv_iload rfl ?_
      refine qv_pt rfl (by show 6 < 7; decide) rfl rfl ?_
      exact qv_ret rfl hk
    | succ c ih =>
      intro i hi
      have hiK : i < K := by omega
      obtain ⟨a1, a2, a3, a4, a5⟩ := ht i hiK
      have nx := ih (i + 1) (by omega)
      have lo : orb t 0 i < 128 := orb_lt _ (fun j _ hj k => ((ht j (by omega)).2.1 k).1)
      have la : oab t i < 128 := oab_lt _ (fun j hj k => ((ht j (by omega)).2.2.2.1 k).2.2)
      have eq0 : qah t (i + 1) = qah t i + (if (t i).1 = 1 then 1 else 0) := rfl
      have eo : orb t 0 (i + 1) = orb t 0 i ||| lfb (t i) := by show orb t 0 i ||| lfb (t (0 + i)) = _; rw [Nat.zero_add]
      have ea : oab t (i + 1) = oab t i ||| lab (t i) := rfl
      rcases (show (t i).1 = 0 ∨ (t i).1 = 1 ∨ (t i).1 = 2 by omega) with h | h | h
      · obtain ⟨b1, b2⟩ := a2 h
        have sh := (shl7 (t i).2.2.2.1 b1)
        have e1 : nI (orb t 0 i) ||| (1 <<< (nI (t i).2.2.2.1 &&& 31)) = nI (orb t 0 (i + 1)) := by
          rw [sh.1, orI lo sh.2, eo]; unfold lfb; rw [if_pos h]
        rw [eq0, if_neg (by omega), Nat.add_zero, ea] at nx
        have e2 : oab t i ||| lab (t i) = oab t i := by unfold lab; rw [if_neg (by omega)]; exact Nat.or_zero _
        rw [e2] at nx
        refine qW.blk rfl ?_
        refine qv_iload rfl ?_
        refine qv_iload rfl ?_
        refine qv_icmp_geNf rfl rfl (by omega) (by omega) (by omega) (nx := 2) rfl ?_
        refine qW.blk rfl ?_
        refine qv_aload rfl ?_
        refine qv_iload rfl ?_
        refine qv_iah g1 rfl (by omega) (by omega) (b2) ?_
        refine qv_iconst (v := 7) rfl ?_
        refine qv_icmp_neNt (q := 7) rfl rfl (by omega) (by omega) (by omega) (tgt := 4) rfl ?_
        refine qW.blk rfl ?_
        refine qv_aload rfl ?_
        refine qv_iload rfl ?_
        refine qv_iah g1 rfl (by omega) (by omega) (b2) ?_
        refine qv_iconst (v := 8) rfl ?_
        refine qv_icmp_neNt (q := 8) rfl rfl (by omega) (by omega) (by omega) (tgt := 6) rfl ?_
        refine qW.blk rfl ?_
        refine qv_iload rfl ?_
        refine qv_iconst (v := 1) rfl ?_
        refine qv_aload rfl ?_
        refine qv_iload rfl ?_
        refine qv_iah g1 rfl (by omega) (by omega) (b2) ?_
        refine qv_ishl ?_
        refine qv_ior ?_
        refine qv_top (e1) ?_
        refine qv_istore (L' := [_, _, _, _, _, _, _, _, _]) rfl ?_
        refine qv_nil (nx := 7) rfl ?_
        refine qW.blk rfl ?_
        refine qv_iinc (L' := [_, _, _, _, _, _, _, _, _]) rfl (nI_succ _).symm rfl ?_
        refine qv_goto (tgt := 1) rfl ?_
        exact nx
      · have b2 := a3 h
        rw [eq0, if_pos h, eo, ea] at nx
        have e1 : orb t 0 i ||| lfb (t i) = orb t 0 i := by unfold lfb; rw [if_neg (by omega)]; exact Nat.or_zero _
        have e2 : oab t i ||| lab (t i) = oab t i := by unfold lab; rw [if_neg (by omega)]; exact Nat.or_zero _
        rw [e1, e2] at nx
        have hq7 : w i = nI 7 := b2
        refine qW.blk rfl ?_
        refine qv_iload rfl ?_
        refine qv_iload rfl ?_
        refine qv_icmp_geNf rfl rfl (by omega) (by omega) (by omega) (nx := 2) rfl ?_
        refine qW.blk rfl ?_
        refine qv_aload rfl ?_
        refine qv_iload rfl ?_
        refine qv_iah g1 rfl (by omega) (by omega) (hq7) ?_
        refine qv_iconst (v := 7) rfl ?_
        refine qv_icmp_neNf (q := 7) rfl rfl (by omega) (by omega) (by omega) (nx := 3) rfl ?_
        refine qW.blk rfl ?_
        refine qv_iinc (L' := [_, _, _, _, _, _, _, _, _]) rfl (nI_succ _).symm rfl ?_
        refine qv_goto (tgt := 7) rfl ?_
        refine qW.blk rfl ?_
        refine qv_iinc (L' := [_, _, _, _, _, _, _, _, _]) rfl (nI_succ _).symm rfl ?_
        refine qv_goto (tgt := 1) rfl ?_
        exact nx
      · obtain ⟨b1, b2, b3, b4⟩ := a4 h
        have s1' := (shl7 (t i).2.2.2.1 b3)
        have s2' := (shl7 (t i).2.2.2.2 b4)
        have dv : ((t i).2.2.2.1 * 7 + (t i).2.2.2.2) / 7 = (t i).2.2.2.1 := by omega
        have md : ((t i).2.2.2.1 * 7 + (t i).2.2.2.2) % 7 = (t i).2.2.2.2 := by omega
        have e1 : nI (oab t i) ||| ((1 <<< (nI (((t i).2.2.2.1 * 7 + (t i).2.2.2.2) / 7) &&& 31)) ||| (1 <<< (nI (((t i).2.2.2.1 * 7 + (t i).2.2.2.2) % 7) &&& 31))) = nI (oab t (i + 1)) := by
          rw [dv, md, s1'.1, s2'.1, orI s1'.2 s2'.2, orI la (Nat.or_lt_two_pow (n := 7) s1'.2 s2'.2), ea]
          unfold lab; rw [if_pos h]
        rw [eq0, if_neg (by omega), Nat.add_zero, eo] at nx
        have e2 : orb t 0 i ||| lfb (t i) = orb t 0 i := by unfold lfb; rw [if_neg (by omega)]; exact Nat.or_zero _
        rw [e2] at nx
        have hq8 : w i = nI 8 := b1
        refine qW.blk rfl ?_
        refine qv_iload rfl ?_
        refine qv_iload rfl ?_
        refine qv_icmp_geNf rfl rfl (by omega) (by omega) (by omega) (nx := 2) rfl ?_
        refine qW.blk rfl ?_
        refine qv_aload rfl ?_
        refine qv_iload rfl ?_
        refine qv_iah g1 rfl (by omega) (by omega) (hq8) ?_
        refine qv_iconst (v := 7) rfl ?_
        refine qv_icmp_neNt (q := 7) rfl rfl (by omega) (by omega) (by omega) (tgt := 4) rfl ?_
        refine qW.blk rfl ?_
        refine qv_aload rfl ?_
        refine qv_iload rfl ?_
        refine qv_iah g1 rfl (by omega) (by omega) (hq8) ?_
        refine qv_iconst (v := 8) rfl ?_
        refine qv_icmp_neNf (q := 8) rfl rfl (by omega) (by omega) (by omega) (nx := 5) rfl ?_
        refine qW.blk rfl ?_
        refine qv_iload rfl ?_
        refine qv_iconst (v := 1) rfl ?_
        refine qv_aload rfl ?_
        refine qv_iload rfl ?_
        refine qv_iah g3 rfl (by omega) (by omega) (b2) ?_
        refine qv_iconst (v := 7) rfl ?_
        refine qv_idivN (q := 7) rfl rfl (by omega) (by omega) (by omega) ?_
        refine qv_ishl ?_
        refine qv_iconst (v := 1) rfl ?_
        refine qv_aload rfl ?_
        refine qv_iload rfl ?_
        refine qv_iah g3 rfl (by omega) (by omega) (b2) ?_
        refine qv_iconst (v := 7) rfl ?_
        refine qv_iremN (q := 7) rfl rfl (by omega) (by omega) (by omega) ?_
        refine qv_ishl ?_
        refine qv_ior ?_
        refine qv_ior ?_
        refine qv_top (e1) ?_
        refine qv_istore (L' := [_, _, _, _, _, _, _, _, _]) rfl ?_
        refine qv_goto (tgt := 7) rfl ?_
        refine qW.blk rfl ?_
        refine qv_iinc (L' := [_, _, _, _, _, _, _, _, _]) rfl (nI_succ _).symm rfl ?_
        refine qv_goto (tgt := 1) rfl ?_
        exact nx
  have lp := loop K 0 (Nat.zero_add _)
  rw [hs1] at lp
  refine qP.of (L := [_, _, _, _, _, _, _, _, _]) (by omega) (hP _ rfl) ms_Tree_init rfl ?_
  show qW X PR (d - 1) none cd_Tree_init 0 _ _ _ _
  refine qW.blk rfl ?_
  refine qv_aload rfl ?_
  refine qv_oini (Nat.le_of_ble_eq_true rfl) ?_
  refine qv_aload rfl ?_
  refine qv_iload rfl ?_
  refine qv_pt rfl (by show 0 < 7; decide) rfl rfl ?_
  refine qv_aload rfl ?_
  refine qv_aload rfl ?_
  refine qv_pt rfl (by show 1 < 7; decide) rfl rfl ?_
  refine qv_aload rfl ?_
  refine qv_aload rfl ?_
  refine qv_pt rfl (by show 2 < 7; decide) rfl rfl ?_
  refine qv_aload rfl ?_
  refine qv_aload rfl ?_
  refine qv_pt rfl (by show 3 < 7; decide) rfl rfl ?_
  refine qv_iconst (v := 0) rfl ?_
  refine qv_istore (L' := [_, _, _, _, _, _, _, _, _]) rfl ?_
  refine qv_iconst (v := 0) rfl ?_
  refine qv_istore (L' := [_, _, _, _, _, _, _, _, _]) rfl ?_
  refine qv_iconst (v := 0) rfl ?_
  refine qv_istore (L' := [_, _, _, _, _, _, _, _, _]) rfl ?_
  refine qv_iconst (v := 0) rfl ?_
  refine qv_istore (L' := [_, _, _, _, _, _, _, _, _]) rfl ?_
  refine qv_nil (nx := 1) rfl ?_
  exact lp
theorem w_treeRead (hP : pm_np PR) {d : Nat} (hd : 2 ≤ d) {p : PS} (hC : RC s p) (hK : sB p ≤ 60) (ht : ctr (sT p) (sB p) (va_cpy (qE s 71) (fun _ => 0) 0 0 (sB p)) (va_cpy (qE s 72) (fun _ => 0) 0 0 (sB p)) (va_cpy (qE s 73) (fun _ => 0) 0 0 (sB p))) (hk : Q (some (.ref (204 + (qR s).length))) (trS s (qR s) [.int (nI (sB p)), .ref (204 + (qR s).length + 1), .ref (204 + (qR s).length + 2), .ref (204 + (qR s).length + 3), .int (nI (qah (sT p) (sB p))), .int (nI (orb (sT p) 0 (sB p))), .int (nI (oab (sT p) (sB p)))] (.inl (0, sB p, .inl (va_cpy (qE s 71) (fun _ => 0) 0 0 (sB p)))) (.inl (0, sB p, .inl (va_cpy (qE s 72) (fun _ => 0) 0 0 (sB p)))) (.inl (0, sB p, .inl (va_cpy (qE s 73) (fun _ => 0) 0 0 (sB p)))) (qN s + pm_N 8 + sB p + sB p + sB p))) : qP X PR d 96 [.ref 70] s Q := by
  refine qP.of (L := [_]) (by omega) (hP _ rfl) ms_Reader_treeRead rfl ?_
  show qW X PR (d - 1) _ cd_Reader_treeRead 0 _ _ _ _
  refine qW.blk rfl ?_
  refine qv_new (fs := [.int 0, .null, .null, .null, .int 0, .int 0, .int 0]) (by decide) rfl rfl ?_
  refine qv_dup rfl ?_
  refine qv_aload rfl ?_
  refine qv_gi ly_70 ⟨rfl, rfl, rfl⟩ hC.2.1 ?_
  refine qv_aload rfl ?_
  refine qv_gr ly_70 ⟨rfl, rfl, rfl⟩ (by omega) ?_
  refine qv_aload rfl ?_
  refine qv_gi ly_70 ⟨rfl, rfl, rfl⟩ hC.2.1 ?_
  refine qv_static sg_Arrays_copyOf rfl (w_copyOf hP (by omega) ly_71 (by omega) ?_)
  refine qv_aload rfl ?_
  refine qv_gr ly_70 ⟨rfl, rfl, rfl⟩ (by omega) ?_
  refine qv_aload rfl ?_
  refine qv_gi ly_70 ⟨rfl, rfl, rfl⟩ hC.2.1 ?_
  refine qv_static sg_Arrays_copyOf rfl (w_copyOf hP (by omega) ly_72 (by omega) ?_)
  refine qv_aload rfl ?_
  refine qv_gr ly_70 ⟨rfl, rfl, rfl⟩ (by omega) ?_
  refine qv_aload rfl ?_
  refine qv_gi ly_70 ⟨rfl, rfl, rfl⟩ hC.2.1 ?_
  refine qv_static sg_Arrays_copyOf rfl (w_copyOf hP (by omega) ly_73 (by omega) ?_)
  have hR : qR (uR (uR (uR (uR s (qR s ++ [.inr (8, [.int 0, .null, .null, .null, .int 0, .int 0, .int 0])]) (qN s + pm_N 8)) ((qR s ++ [.inr (8, [.int 0, .null, .null, .null, .int 0, .int 0, .int 0])]) ++ [.inl (0, sB p, .inl (va_cpy (qE s 71) (fun _ => 0) 0 0 (sB p)))]) (qN s + pm_N 8 + sB p)) (((qR s ++ [.inr (8, [.int 0, .null, .null, .null, .int 0, .int 0, .int 0])]) ++ [.inl (0, sB p, .inl (va_cpy (qE s 71) (fun _ => 0) 0 0 (sB p)))]) ++ [.inl (0, sB p, .inl (va_cpy (qE s 72) (fun _ => 0) 0 0 (sB p)))]) (qN s + pm_N 8 + sB p + sB p)) ((((qR s ++ [.inr (8, [.int 0, .null, .null, .null, .int 0, .int 0, .int 0])]) ++ [.inl (0, sB p, .inl (va_cpy (qE s 71) (fun _ => 0) 0 0 (sB p)))]) ++ [.inl (0, sB p, .inl (va_cpy (qE s 72) (fun _ => 0) 0 0 (sB p)))]) ++ [.inl (0, sB p, .inl (va_cpy (qE s 73) (fun _ => 0) 0 0 (sB p)))]) (qN s + pm_N 8 + sB p + sB p + sB p)) = qR s ++ [.inr (8, [.int 0, .null, .null, .null, .int 0, .int 0, .int 0]), .inl (0, sB p, .inl (va_cpy (qE s 71) (fun _ => 0) 0 0 (sB p))), .inl (0, sB p, .inl (va_cpy (qE s 72) (fun _ => 0) 0 0 (sB p))), .inl (0, sB p, .inl (va_cpy (qE s 73) (fun _ => 0) 0 0 (sB p)))] := by
    rw [qR_uR, List.append_assoc, List.append_assoc, List.append_assoc]
    rfl
  have hS : uR (uR (uR (uR s (qR s ++ [.inr (8, [.int 0, .null, .null, .null, .int 0, .int 0, .int 0])]) (qN s + pm_N 8)) ((qR s ++ [.inr (8, [.int 0, .null, .null, .null, .int 0, .int 0, .int 0])]) ++ [.inl (0, sB p, .inl (va_cpy (qE s 71) (fun _ => 0) 0 0 (sB p)))]) (qN s + pm_N 8 + sB p)) (((qR s ++ [.inr (8, [.int 0, .null, .null, .null, .int 0, .int 0, .int 0])]) ++ [.inl (0, sB p, .inl (va_cpy (qE s 71) (fun _ => 0) 0 0 (sB p)))]) ++ [.inl (0, sB p, .inl (va_cpy (qE s 72) (fun _ => 0) 0 0 (sB p)))]) (qN s + pm_N 8 + sB p + sB p)) ((((qR s ++ [.inr (8, [.int 0, .null, .null, .null, .int 0, .int 0, .int 0])]) ++ [.inl (0, sB p, .inl (va_cpy (qE s 71) (fun _ => 0) 0 0 (sB p)))]) ++ [.inl (0, sB p, .inl (va_cpy (qE s 72) (fun _ => 0) 0 0 (sB p)))]) ++ [.inl (0, sB p, .inl (va_cpy (qE s 73) (fun _ => 0) 0 0 (sB p)))]) (qN s + pm_N 8 + sB p + sB p + sB p) = trS s (qR s) [.int 0, .null, .null, .null, .int 0, .int 0, .int 0] (.inl (0, sB p, .inl (va_cpy (qE s 71) (fun _ => 0) 0 0 (sB p)))) (.inl (0, sB p, .inl (va_cpy (qE s 72) (fun _ => 0) 0 0 (sB p)))) (.inl (0, sB p, .inl (va_cpy (qE s 73) (fun _ => 0) 0 0 (sB p)))) (qN s + pm_N 8 + sB p + sB p + sB p) := by
    rw [qR_uR] at hR
    unfold trS
    rw [hR]
    rfl
  have l1 : 204 + (qR (uR s (qR s ++ [.inr (8, [.int 0, .null, .null, .null, .int 0, .int 0, .int 0])]) (qN s + pm_N 8))).length = 204 + (qR s).length + 1 := by
    rw [qR_uR, List.length_append]; rfl
  have l2 : 204 + (qR (uR (uR s (qR s ++ [.inr (8, [.int 0, .null, .null, .null, .int 0, .int 0, .int 0])]) (qN s + pm_N 8)) ((qR s ++ [.inr (8, [.int 0, .null, .null, .null, .int 0, .int 0, .int 0])]) ++ [.inl (0, sB p, .inl (va_cpy (qE s 71) (fun _ => 0) 0 0 (sB p)))]) (qN s + pm_N 8 + sB p))).length = 204 + (qR s).length + 2 := by
    rw [qR_uR, List.length_append, List.length_append]; rfl
  have l3 : 204 + (qR (uR (uR (uR s (qR s ++ [.inr (8, [.int 0, .null, .null, .null, .int 0, .int 0, .int 0])]) (qN s + pm_N 8)) ((qR s ++ [.inr (8, [.int 0, .null, .null, .null, .int 0, .int 0, .int 0])]) ++ [.inl (0, sB p, .inl (va_cpy (qE s 71) (fun _ => 0) 0 0 (sB p)))]) (qN s + pm_N 8 + sB p)) (((qR s ++ [.inr (8, [.int 0, .null, .null, .null, .int 0, .int 0, .int 0])]) ++ [.inl (0, sB p, .inl (va_cpy (qE s 71) (fun _ => 0) 0 0 (sB p)))]) ++ [.inl (0, sB p, .inl (va_cpy (qE s 72) (fun _ => 0) 0 0 (sB p)))]) (qN s + pm_N 8 + sB p + sB p))).length = 204 + (qR s).length + 3 := by
    rw [qR_uR, List.length_append, List.length_append, List.length_append]; rfl
  have fin : qP X PR (d - 1) 103 [.ref (204 + (qR s).length), .int (nI (sB p)), .ref (204 + (qR s).length + 1), .ref (204 + (qR s).length + 2), .ref (204 + (qR s).length + 3)] (trS s (qR s) [.int 0, .null, .null, .null, .int 0, .int 0, .int 0] (.inl (0, sB p, .inl (va_cpy (qE s 71) (fun _ => 0) 0 0 (sB p)))) (.inl (0, sB p, .inl (va_cpy (qE s 72) (fun _ => 0) 0 0 (sB p)))) (.inl (0, sB p, .inl (va_cpy (qE s 73) (fun _ => 0) 0 0 (sB p)))) (qN s + pm_N 8 + sB p + sB p + sB p)) (fun v s' => qV X PR (d - 1) (some (.object "QuestionDesk$Tree")) cd_Reader_treeRead 0 [.areturn] [some (.ref 70)] (v.toList ++ [.ref (204 + (qR s).length)]) s' Q) := w_Tree_init hP (by omega) hK ht (qv_aret ⟨rfl, rfl⟩ hk)
  rw [← hS, ← l1, ← l2, ← l3] at fin
  exact qv_spec sg_Tree_init rfl fin
end
