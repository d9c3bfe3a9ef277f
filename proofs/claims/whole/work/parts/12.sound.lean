/-! THE PURE MACHINE'S RUNS ARE THE MACHINE'S -/
def pm_tg (code : List (Nat × List Instr)) (pc : Nat) (off t : Int) : Bool := match code[t.toNat]? with
  | some q => decide ((pc : Int) + off = (q.1 : Int))
  | none => false
def pm_ft (code : List (Nat × List Instr)) (b pc : Nat) : Bool := match code[b + 1]? with
  | some q => decide (q.1 = pc)
  | none => false
def pm_lkc (code : List (Nat × List Instr)) (pc : Nat) : List (Int × Int) → List (Int × Int) → Bool
  | [], [] => true
  | q :: r, q' :: r' => decide (q.1 = q'.1) && (pm_tg code pc q'.2 q.2 && pm_lkc code pc r r')
  | _, _ => false
def pm_ml (own : String) (idx : Nat) (y : MethodName) (nest : Bool) (h : Nat) : Bool := pm_wb h (.methodLink own idx y) || (nest && decide (pm_nwm[h - 90000]? = some (own, idx, y)))
/-- block b of a method, from pc on: each op is the real instruction there -/
def pm_bk (cc : ByteArray) (own : String) (ini : Bool) (M : List pm_M) (code : List (Nat × List Instr)) (b : Nat) : Nat → List Instr → List Nat → Bool
  | pc, [], _ => pm_ft code b pc
  | pc, op :: ops, hs => match decode cc pc with
    | .error _ => false
    | .ok il => match op with
      | .goto t => (match il.1 with | .goto off => pm_tg code pc off t && decide (il.2 = 3) | _ => false)
      | .ifCond c t => (match il.1 with | .ifCond c' off => decide (c = c') && (pm_tg code pc off t && (pm_ft code b (pc + 3) && decide (il.2 = 3))) | _ => false)
      | .if_icmp c t => (match il.1 with | .if_icmp c' off => decide (c = c') && (pm_tg code pc off t && (pm_ft code b (pc + 3) && decide (il.2 = 3))) | _ => false)
      | .ifnull t => (match il.1 with | .ifnull off => pm_tg code pc off t && (pm_ft code b (pc + 3) && decide (il.2 = 3)) | _ => false)
      | .ifnonnull t => (match il.1 with | .ifnonnull off => pm_tg code pc off t && (pm_ft code b (pc + 3) && decide (il.2 = 3)) | _ => false)
      | .tableswitch d lo hi offs => (match il.1 with | .tableswitch d' lo' hi' offs' => decide (lo = lo' ∧ hi = hi' ∧ offs.size = offs'.size) && (pm_tg code pc d' d && (List.range offs.size).all (fun k => pm_tg code pc (offs'.getD k 0) (offs.getD k 0))) | _ => false)
      | .lookupswitch d ps => (match il.1 with | .lookupswitch d' ps' => (ps'.toList.zip (ps'.toList.drop 1)).all (fun (a, next) => a.1 < next.1) && (pm_tg code pc d' d && pm_lkc code pc ps.toList ps'.toList) | _ => false)
      | .athrow => true
      | .ireturn => decide (il = (.ireturn, 1))
      | .lreturn => decide (il = (.lreturn, 1))
      | .areturn => decide (il = (.areturn, 1))
      | .return_ => decide (il = (.return_, 1))
      | .invokestatic mid => (match il.1 with
        | .invokestatic idx => decide (il.2 = 3) && ((match M[mid]? with | some m => pm_ml own idx m.1.1 true (hs.headD 0) && decide (m.2.1.2 = 99) | none => false) && pm_bk cc own ini M code b (pc + 3) ops hs.tail)
        | _ => false)
      | .invokevirtual mid => (match il.1 with
        | .invokevirtual idx => decide (il.2 = 3) && ((match M[mid]? with | some m => pm_ml own idx m.1.1 false (hs.headD 0) && decide (m.2.1.2 < 11 ∧ m.1.1.name ≠ "<init>") | none => false) && pm_bk cc own ini M code b (pc + 3) ops hs.tail)
        | _ => false)
      | .invokespecial mid => (match il.1 with
        | .invokespecial idx => decide (il.2 = 3) && ((match M[mid]? with | some m => pm_ml own idx m.1.1 true (hs.headD 0) && decide (m.2.1.2 < 11 ∧ m.1.1.name = "<init>") | none => false) && pm_bk cc own ini M code b (pc + 3) ops hs.tail)
        | _ => false)
      | op => pm_rl own ini il.1 il.2 op (hs.headD 0) && pm_bk cc own ini M code b (pc + il.2) ops hs.tail
def pm_isRet (ret : Option FieldType) (i : Instr) (f : pm_F) (t : pm_T) : Prop :=
  (i = .ireturn ∧ ∃ x, f.2.1 = [.int x] ∧ pm_ret ret (.int x) = true ∧ t = (some (.int x), f.2.2)) ∨ (i = .lreturn ∧ ∃ x, f.2.1 = [.long x] ∧ ret = some .long ∧ t = (some (.long x), f.2.2)) ∨
  (i = .areturn ∧ ∃ v, f.2.1 = [v] ∧ pm_isA v = true ∧ pm_ret ret v = true ∧ t = (some v, f.2.2)) ∨ (i = .return_ ∧ f.2.1 = [] ∧ ret = none ∧ t = (none, f.2.2))
section PMS
variable {p : Program} {l : Launch} {e : Env} {R : Room} {s : State} {m : MethodId} {args : Array Value} {below : List Frame} {meth : Method} {c : Code} {Q : State → Prop} {cc : ByteArray} {nL : Nat} {own : String} {sa : Nat → Nat} {base : Nat} {dC : Nat → ClassId} {dI : Nat → Nat → Nat} {dA : Nat → ClassId} {X : pm_X} {n0 sl0 nf slf : Nat}
theorem pm_s_call {L : List (Option Value)} {stk rest st0 : List Value} {S : pm_S} {t : pm_T} {H : Heap} {locs : List Loc} {ls : Array Slot} {cells slots pc : Nat} (hrun : va_Run p l e R s m args below meth c H locs cells slots (t.2.1.length - S.1.length) (t.2.2 - S.2) (F0 m pc ls st0) (rest.map (pm_cv (pm_ad sa base))) (pm_Post sa base dC dI dA t) (fun q : Nat => base ≤ q))
    (hR : pm_R sa base dC dI dA s nL n0 sl0 (L, stk, S) H locs ls cells slots) (hle : pm_le S t.2)
    (kk : ∀ (H1 : Heap) (locs1 : List Loc) (ls1 : Array Slot) (cells1 slots1 : Nat), pm_R sa base dC dI dA s nL n0 sl0 (L, t.1.toList ++ rest, t.2) H1 locs1 ls1 cells1 slots1 → W p l e R s m args below meth c H1 locs1 cells1 slots1 Q (F0 m (pc + 3) ls1 ((t.1.toList ++ rest).map (pm_cv (pm_ad sa base))))) :
    W p l e R s m args below meth c H locs cells slots Q (F0 m pc ls st0) := by
  intro T hT X2
  obtain ⟨v, st₀, u, T', LL, h1, X', hL, e1, e2, ⟨q1, q2, q3, q4⟩, hgo⟩ := hrun T hT X2
  cases q1
  obtain ⟨r1, r2, r3, r4, r5, r6⟩ := hR
  dsimp only at r3 r5 r6
  have := hle.1
  have := hle.2
  have hS : va_S (fun q : Nat => base ≤ q) s.heap u.heap (locs ++ LL) := ⟨Nat.le_trans r4.1 (by rw [← h1]; exact q4.1), fun q g1 g2 => by
    rw [q4.2 q (by rw [h1]; exact Nat.lt_of_lt_of_le g1 r4.1) g2, h1]
    exact r4.2.1 q g1 g2, fun q hq => by
    rcases List.mem_append.mp hq with h | h
    · exact r4.2.2 q h
    · exact hL q h⟩
  obtain ⟨t2, a1, b1⟩ := kk u.heap (locs ++ LL) ls _ _ ⟨r1, q2, q3, hS, by show n0 + (cells + (t.2.1.length - S.1.length)) = t.2.1.length; omega, by show sl0 + (slots + (t.2.2 - S.2)) = t.2.2; omega⟩ T' e1 X'
  refine ⟨t2, hgo t2 ?_, b1⟩
  have e9 : (t.1.toList ++ rest).map (pm_cv (pm_ad sa base)) = (t.1.map (pm_cv (pm_ad sa base))).toList ++ rest.map (pm_cv (pm_ad sa base)) := by cases t.1 <;> simp
  rw [e9] at a1
  exact a1
theorem pm_tg_at {code : List (Nat × List Instr)} {pc : Nat} {off t : Int} (h : pm_tg code pc off t = true) : ∃ q, code[t.toNat]? = some q ∧ (pc : Int) + off = (q.1 : Int) := by
  unfold pm_tg at h
  split at h
  · rename_i q hq
    exact ⟨q, hq, by simpa using h⟩
  · cases h
theorem pm_ft_at {code : List (Nat × List Instr)} {b pc : Nat} (h : pm_ft code b pc = true) : ∃ q, code[b + 1]? = some q ∧ q.1 = pc := by
  unfold pm_ft at h
  split at h
  · rename_i q hq
    exact ⟨q, hq, by simpa using h⟩
  · cases h
theorem pm_lkc_at {code : List (Nat × List Instr)} {pc : Nat} {d d' x : Int} (hd : pm_tg code pc d' d = true) : ∀ (a b : List (Int × Int)), pm_lkc code pc a b = true → pm_tg code pc (Op.lookupswitch.offset b d' x) (Op.lookupswitch.offset a d x) = true := by
  intro a
  induction a with
  | nil =>
    intro b h
    cases b with
    | nil => exact hd
    | cons q r => cases h
  | cons q r ih =>
    intro b h
    cases b with
    | nil => cases h
    | cons q' r' =>
      unfold pm_lkc at h
      simp only [Bool.and_eq_true, decide_eq_true_eq] at h
      obtain ⟨h1, h2, h3⟩ := h
      obtain ⟨k, o⟩ := q
      obtain ⟨k', o'⟩ := q'
      simp only at h1 h2
      subst h1
      unfold Op.lookupswitch.offset
      split
      · exact h2
      · exact ih r' h3
theorem pm_ml_at {idx h : Nat} {y : MethodName} {nest : Bool} (hh : pm_ml own idx y nest h = true) : Cond.methodLink own idx y ∈ pm_tbl ∨ ((own, idx, y) ∈ pm_nwm ∧ nest = true) := by
  simp only [pm_ml, Bool.or_eq_true, Bool.and_eq_true, decide_eq_true_eq] at hh
  rcases hh with hh | hh
  · exact Or.inl (pm_wb_in hh)
  · exact Or.inr ⟨List.mem_of_getElem? hh.2, hh.1⟩
theorem pm_inv_at {n : Nat} {this : Bool} {st : List Value} {r : List Value × List Value} (h : pm_inv n this st = some r) : st = r.1.reverse ++ r.2 ∧ (r.2.map fun v => v.category).sum ≤ 8 ∧ r.1.length = (if this = true then n + 1 else n) := by
  unfold pm_inv at h
  simp only at h
  generalize (if this = true then n + 1 else n) = k at h ⊢
  split at h
  · rename_i hk
    cases h
    refine ⟨?_, hk.2, ?_⟩
    · rw [List.reverse_reverse, List.take_append_drop]
    · rw [List.length_reverse, List.length_take]
      omega
  · cases h
end PMS
