/-! rules that run a block of the pure machine, goal first, one an op -/
def pm_E (X : pm_X) (M : List pm_M) (cf : Nat → List Value → pm_S → Option pm_T) (ret : Option FieldType) (code : List (Nat × List Instr)) (b : Nat) (ops : List Instr) (f : pm_F) (t : pm_T) : Prop := ∃ o, pm_ex X M cf ret b ops f = some o ∧ (match o with | .inl g => pm_to X M cf ret code g.1 g.2 t | .inr u => u = t)
/-- cell a of the heap -/
def pm_h (S : pm_S) (a : Nat) (e : va_E) : Prop := 8 ≤ a ∧ S.1[a - 8]? = some e
def pm_put (S : pm_S) (a : Nat) (e : va_E) : pm_S := (S.1.set (a - 8) e, S.2)
theorem pm_h.eq {S : pm_S} {a : Nat} {e e0 : va_E} (h : pm_h S a e0) : pm_h (pm_put S a e) a e := ⟨h.1, by
  have hl : a - 8 < S.1.length := (List.getElem?_eq_some_iff.mp h.2).1
  show (S.1.set (a - 8) e)[a - 8]? = some e
  rw [List.getElem?_set_self hl]⟩
theorem pm_h.ne {S : pm_S} {a b : Nat} {e e1 : va_E} (h : pm_h S b e) (hne : b ≠ a) (ha : 8 ≤ a) : pm_h (pm_put S a e1) b e := ⟨h.1, by
  show (S.1.set (a - 8) e1)[b - 8]? = some e
  have := h.1
  rw [List.getElem?_set_ne (by omega)]
  exact h.2⟩
theorem pm_h.det {S : pm_S} {a : Nat} {e e' : va_E} (h : pm_h S a e) (h' : pm_h S a e') : e = e' := Option.some.inj (h.2.symm.trans h'.2)
theorem pm_h.get {X : pm_X} {S : pm_S} {a : Nat} {e : va_E} (h : pm_h S a e) : pm_get X S.1 a = some e := by
  rw [pm_get_hi (by have := h.1; omega)]
  exact h.2
section
variable {X : pm_X} {M : List pm_M} {cf : Nat → List Value → pm_S → Option pm_T} {ret : Option FieldType} {code : List (Nat × List Instr)} {b : Nat} {is : List Instr} {L L' : List (Option Value)} {st : List Value} {S : pm_S} {t : pm_T}
theorem pm_to.blk {f : pm_F} {pc : Nat} {ops : List Instr} (hb : code[b]? = some (pc, ops)) (h : pm_E X M cf ret code b ops f t) : pm_to X M cf ret code b f t := by
  obtain ⟨o, h1, h2⟩ := h
  cases o <;> exact pm_to_of hb h1 h2
theorem pe_step {op : Instr} {f f' : pm_F} (h : pm_ctl op = false) (hop : pm_op X op f = some f') (k : pm_E X M cf ret code b is f' t) : pm_E X M cf ret code b (op :: is) f t := by
  obtain ⟨o, h1, h2⟩ := k
  refine ⟨o, ?_, h2⟩
  rw [pm_ex_def h, hop]
  exact h1
theorem pe_nil {f : pm_F} {nx : Nat} (hn : b + 1 = nx) (k : pm_to X M cf ret code nx f t) : pm_E X M cf ret code b [] f t := by
  subst hn
  exact ⟨_, rfl, k⟩
theorem pe_iconst {n : Int} {v : Int32} (hv : Int32.ofInt n = v) (k : pm_E X M cf ret code b is (L, .int v :: st, S) t) : pm_E X M cf ret code b (.iconst n :: is) (L, st, S) t := pe_step rfl rfl (by rw [hv]; exact k)
theorem pe_lconst {n : Int} {v : Int64} (hv : Int64.ofInt n = v) (k : pm_E X M cf ret code b is (L, .long v :: st, S) t) : pm_E X M cf ret code b (.goto_w n :: is) (L, st, S) t := pe_step rfl rfl (by rw [hv]; exact k)
theorem pe_null   (k : pm_E X M cf ret code b is (L, .null :: st, S) t) : pm_E X M cf ret code b (.aconst_null :: is) (L, st, S) t := pe_step rfl rfl k
theorem pe_gets {n : Nat}  (k : pm_E X M cf ret code b is (L, .ref n :: st, S) t) : pm_E X M cf ret code b (.getstatic n :: is) (L, st, S) t := pe_step rfl rfl k
theorem pe_iload {i : Nat} {x : Int32} (h : pm_ld L i = some (.int x)) (k : pm_E X M cf ret code b is (L, .int x :: st, S) t) : pm_E X M cf ret code b (.iload i :: is) (L, st, S) t := by
  refine pe_step (f' := _) rfl ?_ k
  simp only [pm_op, pm_load, h]
  rfl
theorem pe_lload {i : Nat} {x : Int64} (h : pm_ld L i = some (.long x)) (k : pm_E X M cf ret code b is (L, .long x :: st, S) t) : pm_E X M cf ret code b (.lload i :: is) (L, st, S) t := by
  refine pe_step (f' := _) rfl ?_ k
  simp only [pm_op, pm_load, h]
  rfl
theorem pe_aload {i a : Nat} (h : pm_ld L i = some (.ref a)) (k : pm_E X M cf ret code b is (L, .ref a :: st, S) t) : pm_E X M cf ret code b (.aload i :: is) (L, st, S) t := by
  refine pe_step (f' := _) rfl ?_ k
  simp only [pm_op, pm_load, h]
  rfl
theorem pe_aloadN {i : Nat} (h : pm_ld L i = some .null) (k : pm_E X M cf ret code b is (L, .null :: st, S) t) : pm_E X M cf ret code b (.aload i :: is) (L, st, S) t := by
  refine pe_step (f' := _) rfl ?_ k
  simp only [pm_op, pm_load, h]
  rfl
theorem pe_istore {i : Nat} {x : Int32} (h : pm_st L i (.int x) = some L') (k : pm_E X M cf ret code b is (L', st, S) t) : pm_E X M cf ret code b (.istore i :: is) (L, .int x :: st, S) t := by
  refine pe_step (f' := _) rfl ?_ k
  simp only [pm_op, pm_store, pm_isI, pm_isL, pm_isA, if_true, h]
theorem pe_lstore {i : Nat} {x : Int64} (h : pm_st L i (.long x) = some L') (k : pm_E X M cf ret code b is (L', st, S) t) : pm_E X M cf ret code b (.lstore i :: is) (L, .long x :: st, S) t := by
  refine pe_step (f' := _) rfl ?_ k
  simp only [pm_op, pm_store, pm_isI, pm_isL, pm_isA, if_true, h]
theorem pe_astore {i a : Nat} (h : pm_st L i (.ref a) = some L') (k : pm_E X M cf ret code b is (L', st, S) t) : pm_E X M cf ret code b (.astore i :: is) (L, .ref a :: st, S) t := by
  refine pe_step (f' := _) rfl ?_ k
  simp only [pm_op, pm_store, pm_isI, pm_isL, pm_isA, if_true, h]
theorem pe_astoreN {i : Nat} (h : pm_st L i .null = some L') (k : pm_E X M cf ret code b is (L', st, S) t) : pm_E X M cf ret code b (.astore i :: is) (L, .null :: st, S) t := by
  refine pe_step (f' := _) rfl ?_ k
  simp only [pm_op, pm_store, pm_isI, pm_isL, pm_isA, if_true, h]
theorem pe_iinc {i : Nat} {n : Int} {x v : Int32} (h : pm_ld L i = some (.int x)) (hv : x + Int32.ofInt n = v) (h2 : pm_st L i (.int v) = some L') (k : pm_E X M cf ret code b is (L', st, S) t) : pm_E X M cf ret code b (.iinc i n :: is) (L, st, S) t := by
  refine pe_step (f' := _) rfl ?_ k
  simp only [pm_op, pm_iinc, h, hv, h2]
theorem pe_iadd {x y : Int32}  (k : pm_E X M cf ret code b is (L, .int (x + y) :: st, S) t) : pm_E X M cf ret code b (.iadd :: is) (L, .int y :: .int x :: st, S) t := pe_step rfl rfl k
theorem pe_isub {x y : Int32}  (k : pm_E X M cf ret code b is (L, .int (x - y) :: st, S) t) : pm_E X M cf ret code b (.isub :: is) (L, .int y :: .int x :: st, S) t := pe_step rfl rfl k
theorem pe_imul {x y : Int32}  (k : pm_E X M cf ret code b is (L, .int (x * y) :: st, S) t) : pm_E X M cf ret code b (.imul :: is) (L, .int y :: .int x :: st, S) t := pe_step rfl rfl k
theorem pe_iand {x y : Int32}  (k : pm_E X M cf ret code b is (L, .int (x &&& y) :: st, S) t) : pm_E X M cf ret code b (.iand :: is) (L, .int y :: .int x :: st, S) t := pe_step rfl rfl k
theorem pe_ior {x y : Int32}  (k : pm_E X M cf ret code b is (L, .int (x ||| y) :: st, S) t) : pm_E X M cf ret code b (.ior :: is) (L, .int y :: .int x :: st, S) t := pe_step rfl rfl k
theorem pe_ixor {x y : Int32}  (k : pm_E X M cf ret code b is (L, .int (x ^^^ y) :: st, S) t) : pm_E X M cf ret code b (.ixor :: is) (L, .int y :: .int x :: st, S) t := pe_step rfl rfl k
theorem pe_ishl {x y : Int32}  (k : pm_E X M cf ret code b is (L, .int (x <<< (y &&& 31)) :: st, S) t) : pm_E X M cf ret code b (.ishl :: is) (L, .int y :: .int x :: st, S) t := pe_step rfl rfl k
theorem pe_ishr {x y : Int32}  (k : pm_E X M cf ret code b is (L, .int (x >>> (y &&& 31)) :: st, S) t) : pm_E X M cf ret code b (.ishr :: is) (L, .int y :: .int x :: st, S) t := pe_step rfl rfl k
theorem pe_iushr {x y : Int32}  (k : pm_E X M cf ret code b is (L, .int ((x.toUInt32 >>> (y.toUInt32 &&& Int32.toUInt32 31)).toInt32) :: st, S) t) : pm_E X M cf ret code b (.iushr :: is) (L, .int y :: .int x :: st, S) t := pe_step rfl rfl k
theorem pe_idiv {x y : Int32} (h : ¬ y = 0) (k : pm_E X M cf ret code b is (L, .int (x / y) :: st, S) t) : pm_E X M cf ret code b (.idiv :: is) (L, .int y :: .int x :: st, S) t := by
  refine pe_step (f' := _) rfl ?_ k
  simp only [pm_op, pm_b2, h, if_false]
theorem pe_irem {x y : Int32} (h : ¬ y = 0) (k : pm_E X M cf ret code b is (L, .int (x - x / y * y) :: st, S) t) : pm_E X M cf ret code b (.irem :: is) (L, .int y :: .int x :: st, S) t := by
  refine pe_step (f' := _) rfl ?_ k
  simp only [pm_op, pm_b2, h, if_false]
theorem pe_ineg {x : Int32}  (k : pm_E X M cf ret code b is (L, .int (-x) :: st, S) t) : pm_E X M cf ret code b (.ineg :: is) (L, .int x :: st, S) t := pe_step rfl rfl k
theorem pe_i2l {x : Int32}  (k : pm_E X M cf ret code b is (L, .long x.toInt64 :: st, S) t) : pm_E X M cf ret code b (.i2l :: is) (L, .int x :: st, S) t := pe_step rfl rfl k
theorem pe_i2b {x : Int32}  (k : pm_E X M cf ret code b is (L, .int x.toInt8.toInt32 :: st, S) t) : pm_E X M cf ret code b (.i2b :: is) (L, .int x :: st, S) t := pe_step rfl rfl k
theorem pe_i2s {x : Int32}  (k : pm_E X M cf ret code b is (L, .int x.toInt16.toInt32 :: st, S) t) : pm_E X M cf ret code b (.i2s :: is) (L, .int x :: st, S) t := pe_step rfl rfl k
theorem pe_l2i {x : Int64}  (k : pm_E X M cf ret code b is (L, .int x.toInt32 :: st, S) t) : pm_E X M cf ret code b (.l2i :: is) (L, .long x :: st, S) t := pe_step rfl rfl k
theorem pe_ladd {x y : Int64}  (k : pm_E X M cf ret code b is (L, .long (x + y) :: st, S) t) : pm_E X M cf ret code b (.ladd :: is) (L, .long y :: .long x :: st, S) t := pe_step rfl rfl k
theorem pe_lmul {x y : Int64}  (k : pm_E X M cf ret code b is (L, .long (x * y) :: st, S) t) : pm_E X M cf ret code b (.lmul :: is) (L, .long y :: .long x :: st, S) t := pe_step rfl rfl k
theorem pe_lcmp {x y : Int64}  (k : pm_E X M cf ret code b is (L, .int (lg_cmp x y) :: st, S) t) : pm_E X M cf ret code b (.lcmp :: is) (L, .long y :: .long x :: st, S) t := pe_step rfl rfl k
theorem pe_dup {v : Value} (h : v.category = 1) (k : pm_E X M cf ret code b is (L, v :: v :: st, S) t) : pm_E X M cf ret code b (.dup :: is) (L, v :: st, S) t := by
  refine pe_step (f' := _) rfl ?_ k
  simp only [pm_op, pm_dup, h, if_true]
theorem pe_dup2 {v w : Value} (h : v.category = 1) (h2 : w.category = 1) (k : pm_E X M cf ret code b is (L, v :: w :: v :: w :: st, S) t) : pm_E X M cf ret code b (.dup2 :: is) (L, v :: w :: st, S) t := by
  refine pe_step (f' := _) rfl ?_ k
  simp only [pm_op, pm_dup2, h, h2, and_self, if_true]
theorem pe_pop {v : Value} (h : v.category = 1) (k : pm_E X M cf ret code b is (L, st, S) t) : pm_E X M cf ret code b (.pop :: is) (L, v :: st, S) t := by
  refine pe_step (f' := _) rfl ?_ k
  simp only [pm_op, pm_pop, h, if_true]
theorem pe_pop2 {x : Int64}  (k : pm_E X M cf ret code b is (L, st, S) t) : pm_E X M cf ret code b (.pop2 :: is) (L, .long x :: st, S) t := pe_step rfl rfl k
theorem pe_max {x y : Int32} (h : (st.map fun v => v.category).sum ≤ 8) (k : pm_E X M cf ret code b is (L, .int (if x < y then y else x) :: st, S) t) : pm_E X M cf ret code b (.dup_x1 :: is) (L, .int y :: .int x :: st, S) t := by
  refine pe_step (f' := _) rfl ?_ k
  simp only [pm_op, pm_mm, h, if_true]
theorem pe_min {x y : Int32} (h : (st.map fun v => v.category).sum ≤ 8) (k : pm_E X M cf ret code b is (L, .int (if y < x then y else x) :: st, S) t) : pm_E X M cf ret code b (.dup_x2 :: is) (L, .int y :: .int x :: st, S) t := by
  refine pe_step (f' := _) rfl ?_ k
  simp only [pm_op, pm_mm, h, if_true]
theorem pe_oini {a : Nat} (h : (st.map fun v => v.category).sum ≤ 8) (k : pm_E X M cf ret code b is (L, st, S) t) : pm_E X M cf ret code b (.monitorenter :: is) (L, .ref a :: st, S) t := by
  refine pe_step (f' := _) rfl ?_ k
  simp only [pm_op, pm_oini, h, if_true]
theorem pe_iald {i : Int32} {a n : Nat} {g : Nat → Int32} (h : pm_h S a (.inl (0, n, .inl g))) (hi : vp_in i n) (k : pm_E X M cf ret code b is (L, .int (g i.toNatClampNeg) :: st, S) t) : pm_E X M cf ret code b (.iaload :: is) (L, .int i :: .ref a :: st, S) t := by
  refine pe_step (f' := _) rfl ?_ k
  unfold vp_in at hi
  simp only [pm_op, pm_iald, h.get (X := X), hi, if_false]
theorem pe_ialdX {i : Int32} {a n : Nat} {g : Nat → Int32} (h : X a = some (n, g)) (ha : a < 8) (hi : vp_in i n) (k : pm_E X M cf ret code b is (L, .int (g i.toNatClampNeg) :: st, S) t) : pm_E X M cf ret code b (.iaload :: is) (L, .int i :: .ref a :: st, S) t := by
  refine pe_step (f' := _) rfl ?_ k
  unfold vp_in at hi
  have hg : pm_get X S.1 a = some (.inl (0, n, .inl g)) := by unfold pm_get; rw [if_pos ha, h]; rfl
  simp only [pm_op, pm_iald, hg, hi, if_false]
theorem pe_lald {i : Int32} {a n : Nat} {g : Nat → Int64} (h : pm_h S a (.inl (1, n, .inr (.inl g)))) (hi : vp_in i n) (k : pm_E X M cf ret code b is (L, .long (g i.toNatClampNeg) :: st, S) t) : pm_E X M cf ret code b (.laload :: is) (L, .int i :: .ref a :: st, S) t := by
  refine pe_step (f' := _) rfl ?_ k
  unfold vp_in at hi
  simp only [pm_op, pm_lald, h.get (X := X), hi, if_false]
theorem pe_aald {i : Int32} {a n ty : Nat} {g : Nat → Option Nat} {v : Value} (h : pm_h S a (.inl (ty, n, .inr (.inr (.inr (.inr g)))))) (hty : 2 ≤ ty ∧ ty < 5) (hi : vp_in i n) (hv : va_rf (g i.toNatClampNeg) = v) (k : pm_E X M cf ret code b is (L, v :: st, S) t) : pm_E X M cf ret code b (.aaload :: is) (L, .int i :: .ref a :: st, S) t := by
  refine pe_step (f' := _) rfl ?_ k
  unfold vp_in at hi
  subst hv
  simp only [pm_op, pm_aald, h.get (X := X), hi, hty, and_self, if_true, if_false]
theorem pe_iast {x i : Int32} {a n : Nat} {g : Nat → Int32} (h : pm_h S a (.inl (0, n, .inl g))) (hi : vp_in i n) (k : pm_E X M cf ret code b is (L, st, pm_put S a (.inl (0, n, .inl (upd g i.toNatClampNeg x)))) t) : pm_E X M cf ret code b (.iastore :: is) (L, .int x :: .int i :: .ref a :: st, S) t := by
  refine pe_step (f' := _) rfl ?_ k
  have := h.1
  have h8 : ¬ a < 8 := by omega
  simp only [pm_op, pm_iast, h8, h.get (X := X), if_false]
  unfold vp_in at hi
  simp only [hi, if_false]
  rfl
theorem pe_last {x : Int64} {i : Int32} {a n : Nat} {g : Nat → Int64} (h : pm_h S a (.inl (1, n, .inr (.inl g)))) (hi : vp_in i n) (k : pm_E X M cf ret code b is (L, st, pm_put S a (.inl (1, n, .inr (.inl (vp_updL g i.toNatClampNeg x))))) t) : pm_E X M cf ret code b (.lastore :: is) (L, .long x :: .int i :: .ref a :: st, S) t := by
  refine pe_step (f' := _) rfl ?_ k
  have := h.1
  have h8 : ¬ a < 8 := by omega
  simp only [pm_op, pm_last, h8, h.get (X := X), if_false]
  unfold vp_in at hi
  simp only [hi, if_false]
  rfl
theorem pe_aast {v a n ty ci : Nat} {i : Int32} {g : Nat → Option Nat} {fs : List Value} (h : pm_h S a (.inl (ty, n, .inr (.inr (.inr (.inr g)))))) (hv : pm_h S v (.inr (ci, fs))) (hty : 2 ≤ ty ∧ ty < 5 ∧ ci = pm_ac ty) (hi : vp_in i n) (k : pm_E X M cf ret code b is (L, st, pm_put S a (.inl (ty, n, .inr (.inr (.inr (.inr (va_up g i.toNatClampNeg (some v)))))))) t) : pm_E X M cf ret code b (.aastore :: is) (L, .ref v :: .int i :: .ref a :: st, S) t := by
  refine pe_step (f' := _) rfl ?_ k
  have := h.1
  have := hv.1
  have h8 : ¬ (a < 8 ∨ v < 8) := by omega
  unfold vp_in at hi
  simp only [pm_op, pm_aast, h8, h.get (X := X), hv.get (X := X), if_false]
  rw [if_pos hty, if_neg hi]
  rfl
theorem pe_alen {a n : Nat} {k0 : (Nat → Int32) ⊕ (Nat → Int64) ⊕ (Nat → UInt32) ⊕ (Nat → UInt64) ⊕ (Nat → Option Nat)} (h : pm_h S a (.inl (0, n, k0))) (k : pm_E X M cf ret code b is (L, .int (Int32.ofNat n) :: st, S) t) : pm_E X M cf ret code b (.arraylength :: is) (L, .ref a :: st, S) t := by
  refine pe_step (f' := _) rfl ?_ k
  simp only [pm_op, pm_alen, h.get (X := X)]
theorem pe_alenX {a n : Nat} {g : Nat → Int32} (h : X a = some (n, g)) (ha : a < 8) (k : pm_E X M cf ret code b is (L, .int (Int32.ofNat n) :: st, S) t) : pm_E X M cf ret code b (.arraylength :: is) (L, .ref a :: st, S) t := by
  refine pe_step (f' := _) rfl ?_ k
  have hg : pm_get X S.1 a = some (.inl (0, n, .inl g)) := by unfold pm_get; rw [if_pos ha, h]; rfl
  simp only [pm_op, pm_alen, hg]
theorem pe_getf {n a ci : Nat} {fs : List Value} {v : Value} (h : pm_h S a (.inr (ci, fs))) (hc : ci = n / 64) (hv : fs[n % 64]? = some v) (k : pm_E X M cf ret code b is (L, v :: st, S) t) : pm_E X M cf ret code b (.getfield n :: is) (L, .ref a :: st, S) t := by
  refine pe_step (f' := _) rfl ?_ k
  have := h.1
  have h8 : ¬ a < 8 := by omega
  simp only [pm_op, pm_getf, h8, h.get (X := X), hc, hv, if_false, if_true]
theorem pe_putf {n a ci : Nat} {fs fs' : List Value} {v : Value} (h : pm_h S a (.inr (ci, fs))) (hc : ci = n / 64) (hl : n % 64 < fs.length) (hf : pm_fit (pm_ty (n / 64) (n % 64)) v = true) (he : fs.set (n % 64) v = fs') (k : pm_E X M cf ret code b is (L, st, pm_put S a (.inr (ci, fs'))) t) : pm_E X M cf ret code b (.putfield n :: is) (L, v :: .ref a :: st, S) t := by
  refine pe_step (f' := _) rfl ?_ k
  have := h.1
  have h8 : ¬ a < 8 := by omega
  simp only [pm_op, pm_putf, h8, h.get (X := X), hl, hf, if_false]
  rw [if_pos ⟨hc, trivial, trivial⟩, he]
  rfl
theorem pe_new {ci a : Nat} {fs : List Value} (hci : ci < 11) (ha : 8 + S.1.length = a) (hfs : pm_blank ci = fs) (k : pm_E X M cf ret code b is (L, .ref a :: st, (S.1 ++ [.inr (ci, fs)], S.2 + pm_N ci)) t) : pm_E X M cf ret code b (.new ci :: is) (L, st, S) t := by
  refine pe_step (f' := _) rfl ?_ k
  simp only [pm_op, pm_new, hci, if_true, ha, hfs]
theorem pe_newai {n : Int32} {a : Nat} (hn : ¬ (n < 0 ∨ 100000 ≤ n.toNatClampNeg)) (ha : 8 + S.1.length = a) (k : pm_E X M cf ret code b is (L, .ref a :: st, (S.1 ++ [.inl (0, n.toNatClampNeg, .inl (fun _ => 0))], S.2 + n.toNatClampNeg)) t) : pm_E X M cf ret code b (.newarray .int :: is) (L, .int n :: st, S) t := by
  refine pe_step (f' := _) rfl ?_ k
  simp only [pm_op, pm_newa, hn, if_false, ha]
theorem pe_copy {n dp sp : Int32} {a a0 n0 n1 : Nat} {g0 g1 : Nat → Int32} (hs : (st.map fun v => v.category).sum ≤ 8) (h0 : pm_get X S.1 a0 = some (.inl (0, n0, .inl g0))) (h : pm_h S a (.inl (0, n1, .inl g1))) (hi : ¬ (sp < 0 ∨ dp < 0 ∨ n < 0 ∨ n0 < sp.toNatClampNeg + n.toNatClampNeg ∨ n1 < dp.toNatClampNeg + n.toNatClampNeg)) (k : pm_E X M cf ret code b is (L, st, pm_put S a (.inl (0, n1, .inl (va_cpy g0 g1 sp.toNatClampNeg dp.toNatClampNeg n.toNatClampNeg)))) t) : pm_E X M cf ret code b (.swap :: is) (L, .int n :: .int dp :: .ref a :: .int sp :: .ref a0 :: st, S) t := by
  refine pe_step (f' := _) rfl ?_ k
  have := h.1
  have h8 : ¬ (a < 8 ∨ 8 < (st.map fun v => v.category).sum) := by omega
  simp only [pm_op, pm_copy, h8, h0, h.get (X := X), if_false]
  rw [if_neg hi]
  rfl
theorem pe_goto {tt : Int} {tgt : Nat} {f : pm_F} (ht : tt.toNat = tgt) (k : pm_to X M cf ret code tgt f t) : pm_E X M cf ret code b (.goto tt :: is) f t := ⟨_, rfl, by rw [← ht] at k; exact k⟩
theorem pe_if_eq {x : Int32} {tt : Int} {tgt nx : Nat} (ht : tt.toNat = tgt) (hn : b + 1 = nx) (k1 : x = 0 → pm_to X M cf ret code tgt (L, st, S) t) (k2 : ¬ (x = 0) → pm_to X M cf ret code nx (L, st, S) t) : pm_E X M cf ret code b (.ifCond .eq tt :: is) (L, .int x :: st, S) t := by
  subst ht; subst hn
  by_cases hc : x = 0
  · exact ⟨.inl (tt.toNat, (L, st, S)), (by show (if pm_cond .eq x 0 = true then _ else _) = _; rw [if_pos (show pm_cond .eq x 0 = true from decide_eq_true hc)]), k1 hc⟩
  · exact ⟨.inl (b + 1, (L, st, S)), (by show (if pm_cond .eq x 0 = true then _ else _) = _; rw [if_neg (fun z : pm_cond .eq x 0 = true => hc (of_decide_eq_true z))]), k2 hc⟩
theorem pe_icmp_eq {x y : Int32} {tt : Int} {tgt nx : Nat} (ht : tt.toNat = tgt) (hn : b + 1 = nx) (k1 : x = y → pm_to X M cf ret code tgt (L, st, S) t) (k2 : ¬ (x = y) → pm_to X M cf ret code nx (L, st, S) t) : pm_E X M cf ret code b (.if_icmp .eq tt :: is) (L, .int y :: .int x :: st, S) t := by
  subst ht; subst hn
  by_cases hc : x = y
  · exact ⟨.inl (tt.toNat, (L, st, S)), (by show (if pm_cond .eq x y = true then _ else _) = _; rw [if_pos (show pm_cond .eq x y = true from decide_eq_true hc)]), k1 hc⟩
  · exact ⟨.inl (b + 1, (L, st, S)), (by show (if pm_cond .eq x y = true then _ else _) = _; rw [if_neg (fun z : pm_cond .eq x y = true => hc (of_decide_eq_true z))]), k2 hc⟩
theorem pe_if_ne {x : Int32} {tt : Int} {tgt nx : Nat} (ht : tt.toNat = tgt) (hn : b + 1 = nx) (k1 : ¬ x = 0 → pm_to X M cf ret code tgt (L, st, S) t) (k2 : ¬ (¬ x = 0) → pm_to X M cf ret code nx (L, st, S) t) : pm_E X M cf ret code b (.ifCond .ne tt :: is) (L, .int x :: st, S) t := by
  subst ht; subst hn
  by_cases hc : ¬ x = 0
  · exact ⟨.inl (tt.toNat, (L, st, S)), (by show (if pm_cond .ne x 0 = true then _ else _) = _; rw [if_pos (show pm_cond .ne x 0 = true from decide_eq_true hc)]), k1 hc⟩
  · exact ⟨.inl (b + 1, (L, st, S)), (by show (if pm_cond .ne x 0 = true then _ else _) = _; rw [if_neg (fun z : pm_cond .ne x 0 = true => hc (of_decide_eq_true z))]), k2 hc⟩
theorem pe_icmp_ne {x y : Int32} {tt : Int} {tgt nx : Nat} (ht : tt.toNat = tgt) (hn : b + 1 = nx) (k1 : ¬ x = y → pm_to X M cf ret code tgt (L, st, S) t) (k2 : ¬ (¬ x = y) → pm_to X M cf ret code nx (L, st, S) t) : pm_E X M cf ret code b (.if_icmp .ne tt :: is) (L, .int y :: .int x :: st, S) t := by
  subst ht; subst hn
  by_cases hc : ¬ x = y
  · exact ⟨.inl (tt.toNat, (L, st, S)), (by show (if pm_cond .ne x y = true then _ else _) = _; rw [if_pos (show pm_cond .ne x y = true from decide_eq_true hc)]), k1 hc⟩
  · exact ⟨.inl (b + 1, (L, st, S)), (by show (if pm_cond .ne x y = true then _ else _) = _; rw [if_neg (fun z : pm_cond .ne x y = true => hc (of_decide_eq_true z))]), k2 hc⟩
theorem pe_if_lt {x : Int32} {tt : Int} {tgt nx : Nat} (ht : tt.toNat = tgt) (hn : b + 1 = nx) (k1 : x < 0 → pm_to X M cf ret code tgt (L, st, S) t) (k2 : ¬ (x < 0) → pm_to X M cf ret code nx (L, st, S) t) : pm_E X M cf ret code b (.ifCond .lt tt :: is) (L, .int x :: st, S) t := by
  subst ht; subst hn
  by_cases hc : x < 0
  · exact ⟨.inl (tt.toNat, (L, st, S)), (by show (if pm_cond .lt x 0 = true then _ else _) = _; rw [if_pos (show pm_cond .lt x 0 = true from decide_eq_true hc)]), k1 hc⟩
  · exact ⟨.inl (b + 1, (L, st, S)), (by show (if pm_cond .lt x 0 = true then _ else _) = _; rw [if_neg (fun z : pm_cond .lt x 0 = true => hc (of_decide_eq_true z))]), k2 hc⟩
theorem pe_icmp_lt {x y : Int32} {tt : Int} {tgt nx : Nat} (ht : tt.toNat = tgt) (hn : b + 1 = nx) (k1 : x < y → pm_to X M cf ret code tgt (L, st, S) t) (k2 : ¬ (x < y) → pm_to X M cf ret code nx (L, st, S) t) : pm_E X M cf ret code b (.if_icmp .lt tt :: is) (L, .int y :: .int x :: st, S) t := by
  subst ht; subst hn
  by_cases hc : x < y
  · exact ⟨.inl (tt.toNat, (L, st, S)), (by show (if pm_cond .lt x y = true then _ else _) = _; rw [if_pos (show pm_cond .lt x y = true from decide_eq_true hc)]), k1 hc⟩
  · exact ⟨.inl (b + 1, (L, st, S)), (by show (if pm_cond .lt x y = true then _ else _) = _; rw [if_neg (fun z : pm_cond .lt x y = true => hc (of_decide_eq_true z))]), k2 hc⟩
theorem pe_if_ge {x : Int32} {tt : Int} {tgt nx : Nat} (ht : tt.toNat = tgt) (hn : b + 1 = nx) (k1 : 0 ≤ x → pm_to X M cf ret code tgt (L, st, S) t) (k2 : ¬ (0 ≤ x) → pm_to X M cf ret code nx (L, st, S) t) : pm_E X M cf ret code b (.ifCond .ge tt :: is) (L, .int x :: st, S) t := by
  subst ht; subst hn
  by_cases hc : 0 ≤ x
  · exact ⟨.inl (tt.toNat, (L, st, S)), (by show (if pm_cond .ge x 0 = true then _ else _) = _; rw [if_pos (show pm_cond .ge x 0 = true from decide_eq_true hc)]), k1 hc⟩
  · exact ⟨.inl (b + 1, (L, st, S)), (by show (if pm_cond .ge x 0 = true then _ else _) = _; rw [if_neg (fun z : pm_cond .ge x 0 = true => hc (of_decide_eq_true z))]), k2 hc⟩
theorem pe_icmp_ge {x y : Int32} {tt : Int} {tgt nx : Nat} (ht : tt.toNat = tgt) (hn : b + 1 = nx) (k1 : y ≤ x → pm_to X M cf ret code tgt (L, st, S) t) (k2 : ¬ (y ≤ x) → pm_to X M cf ret code nx (L, st, S) t) : pm_E X M cf ret code b (.if_icmp .ge tt :: is) (L, .int y :: .int x :: st, S) t := by
  subst ht; subst hn
  by_cases hc : y ≤ x
  · exact ⟨.inl (tt.toNat, (L, st, S)), (by show (if pm_cond .ge x y = true then _ else _) = _; rw [if_pos (show pm_cond .ge x y = true from decide_eq_true hc)]), k1 hc⟩
  · exact ⟨.inl (b + 1, (L, st, S)), (by show (if pm_cond .ge x y = true then _ else _) = _; rw [if_neg (fun z : pm_cond .ge x y = true => hc (of_decide_eq_true z))]), k2 hc⟩
theorem pe_if_gt {x : Int32} {tt : Int} {tgt nx : Nat} (ht : tt.toNat = tgt) (hn : b + 1 = nx) (k1 : 0 < x → pm_to X M cf ret code tgt (L, st, S) t) (k2 : ¬ (0 < x) → pm_to X M cf ret code nx (L, st, S) t) : pm_E X M cf ret code b (.ifCond .gt tt :: is) (L, .int x :: st, S) t := by
  subst ht; subst hn
  by_cases hc : 0 < x
  · exact ⟨.inl (tt.toNat, (L, st, S)), (by show (if pm_cond .gt x 0 = true then _ else _) = _; rw [if_pos (show pm_cond .gt x 0 = true from decide_eq_true hc)]), k1 hc⟩
  · exact ⟨.inl (b + 1, (L, st, S)), (by show (if pm_cond .gt x 0 = true then _ else _) = _; rw [if_neg (fun z : pm_cond .gt x 0 = true => hc (of_decide_eq_true z))]), k2 hc⟩
theorem pe_icmp_gt {x y : Int32} {tt : Int} {tgt nx : Nat} (ht : tt.toNat = tgt) (hn : b + 1 = nx) (k1 : y < x → pm_to X M cf ret code tgt (L, st, S) t) (k2 : ¬ (y < x) → pm_to X M cf ret code nx (L, st, S) t) : pm_E X M cf ret code b (.if_icmp .gt tt :: is) (L, .int y :: .int x :: st, S) t := by
  subst ht; subst hn
  by_cases hc : y < x
  · exact ⟨.inl (tt.toNat, (L, st, S)), (by show (if pm_cond .gt x y = true then _ else _) = _; rw [if_pos (show pm_cond .gt x y = true from decide_eq_true hc)]), k1 hc⟩
  · exact ⟨.inl (b + 1, (L, st, S)), (by show (if pm_cond .gt x y = true then _ else _) = _; rw [if_neg (fun z : pm_cond .gt x y = true => hc (of_decide_eq_true z))]), k2 hc⟩
theorem pe_if_le {x : Int32} {tt : Int} {tgt nx : Nat} (ht : tt.toNat = tgt) (hn : b + 1 = nx) (k1 : x ≤ 0 → pm_to X M cf ret code tgt (L, st, S) t) (k2 : ¬ (x ≤ 0) → pm_to X M cf ret code nx (L, st, S) t) : pm_E X M cf ret code b (.ifCond .le tt :: is) (L, .int x :: st, S) t := by
  subst ht; subst hn
  by_cases hc : x ≤ 0
  · exact ⟨.inl (tt.toNat, (L, st, S)), (by show (if pm_cond .le x 0 = true then _ else _) = _; rw [if_pos (show pm_cond .le x 0 = true from decide_eq_true hc)]), k1 hc⟩
  · exact ⟨.inl (b + 1, (L, st, S)), (by show (if pm_cond .le x 0 = true then _ else _) = _; rw [if_neg (fun z : pm_cond .le x 0 = true => hc (of_decide_eq_true z))]), k2 hc⟩
theorem pe_icmp_le {x y : Int32} {tt : Int} {tgt nx : Nat} (ht : tt.toNat = tgt) (hn : b + 1 = nx) (k1 : x ≤ y → pm_to X M cf ret code tgt (L, st, S) t) (k2 : ¬ (x ≤ y) → pm_to X M cf ret code nx (L, st, S) t) : pm_E X M cf ret code b (.if_icmp .le tt :: is) (L, .int y :: .int x :: st, S) t := by
  subst ht; subst hn
  by_cases hc : x ≤ y
  · exact ⟨.inl (tt.toNat, (L, st, S)), (by show (if pm_cond .le x y = true then _ else _) = _; rw [if_pos (show pm_cond .le x y = true from decide_eq_true hc)]), k1 hc⟩
  · exact ⟨.inl (b + 1, (L, st, S)), (by show (if pm_cond .le x y = true then _ else _) = _; rw [if_neg (fun z : pm_cond .le x y = true => hc (of_decide_eq_true z))]), k2 hc⟩
theorem pe_null_t {tt : Int} {tgt : Nat} (ht : tt.toNat = tgt) (k : pm_to X M cf ret code tgt (L, st, S) t) : pm_E X M cf ret code b (.ifnull tt :: is) (L, .null :: st, S) t := ⟨_, rfl, by rw [← ht] at k; exact k⟩
theorem pe_null_f {tt : Int} {a nx : Nat} (hn : b + 1 = nx) (k : pm_to X M cf ret code nx (L, st, S) t) : pm_E X M cf ret code b (.ifnull tt :: is) (L, .ref a :: st, S) t := ⟨_, rfl, by rw [← hn] at k; exact k⟩
theorem pe_nonnull_t {tt : Int} {a tgt : Nat} (ht : tt.toNat = tgt) (k : pm_to X M cf ret code tgt (L, st, S) t) : pm_E X M cf ret code b (.ifnonnull tt :: is) (L, .ref a :: st, S) t := ⟨_, rfl, by rw [← ht] at k; exact k⟩
theorem pe_nonnull_f {tt : Int} {nx : Nat} (hn : b + 1 = nx) (k : pm_to X M cf ret code nx (L, st, S) t) : pm_E X M cf ret code b (.ifnonnull tt :: is) (L, .null :: st, S) t := ⟨_, rfl, by rw [← hn] at k; exact k⟩
theorem pe_table {d lo hi tt : Int} {offs : Array Int} {x : Int32} {tgt : Nat} (h : pm_tab d lo hi offs x = some tt) (ht : tt.toNat = tgt) (k : pm_to X M cf ret code tgt (L, st, S) t) : pm_E X M cf ret code b (.tableswitch d lo hi offs :: is) (L, .int x :: st, S) t := by
  subst ht
  refine ⟨.inl (tt.toNat, (L, st, S)), ?_, k⟩
  simp only [pm_ex, h]
theorem pe_lookup {d : Int} {ps : Array (Int × Int)} {x : Int32} {tgt : Nat} (ht : (Op.lookupswitch.offset ps.toList d x.toInt).toNat = tgt) (k : pm_to X M cf ret code tgt (L, st, S) t) : pm_E X M cf ret code b (.lookupswitch d ps :: is) (L, .int x :: st, S) t := ⟨_, rfl, by rw [← ht] at k; exact k⟩
theorem pe_iret {x : Int32} (h : pm_ret ret (.int x) = true) (ht : (some (.int x), S) = t) : pm_E X M cf ret code b (.ireturn :: is) (L, [.int x], S) t := ⟨.inr (some (.int x), S), by simp only [pm_ex, h, if_true], ht⟩
theorem pe_lret {x : Int64} (h : ret = some .long) (ht : (some (.long x), S) = t) : pm_E X M cf ret code b (.lreturn :: is) (L, [.long x], S) t := ⟨.inr (some (.long x), S), by simp only [pm_ex, h, if_true], ht⟩
theorem pe_aret {v : Value} (h : pm_isA v = true ∧ pm_ret ret v = true) (ht : (some v, S) = t) : pm_E X M cf ret code b (.areturn :: is) (L, [v], S) t := ⟨.inr (some v, S), by simp only [pm_ex, h, and_self, if_true], ht⟩
theorem pe_ret (h : ret = none) (ht : (none, S) = t) : pm_E X M cf ret code b (.return_ :: is) (L, [], S) t := ⟨.inr (none, S), by simp only [pm_ex, h, if_true], ht⟩
theorem pe_static {mid : Nat} {q : Nat × Nat} {as rest : List Value} {r : Option Value} {S' : pm_S} (hs : pm_sig M mid = some q) (hi : pm_inv q.1 false st = some (as, rest)) (hc : cf mid as S = some (r, S')) (k : pm_E X M cf ret code b is (L, r.toList ++ rest, S') t) : pm_E X M cf ret code b (.invokestatic mid :: is) (L, st, S) t := by
  obtain ⟨o, h1, h2⟩ := k
  refine ⟨o, ?_, h2⟩
  simp only [pm_ex, hs, hi, hc]
  exact h1
theorem pe_virt {mid a ci : Nat} {q : Nat × Nat} {as rest fs : List Value} {r : Option Value} {S' : pm_S} (hs : pm_sig M mid = some q) (hi : pm_inv q.1 true st = some (.ref a :: as, rest)) (hr : pm_h S a (.inr (ci, fs))) (hq : q.2 = ci) (hc : cf mid (.ref a :: as) S = some (r, S')) (k : pm_E X M cf ret code b is (L, r.toList ++ rest, S') t) : pm_E X M cf ret code b (.invokevirtual mid :: is) (L, st, S) t := by
  obtain ⟨o, h1, h2⟩ := k
  refine ⟨o, ?_, h2⟩
  have h8 : ¬ a < 8 := by have := hr.1; omega
  have hrc : pm_rcv X S.1 q.2 (.ref a :: as) = true := by simp only [pm_rcv, h8, if_false, hr.get (X := X), hq, beq_self_eq_true]
  simp only [pm_ex, hs, hi, hrc, if_true, hc]
  exact h1
theorem pe_spec {mid a : Nat} {q : Nat × Nat} {as rest : List Value} {r : Option Value} {S' : pm_S} (hs : pm_sig M mid = some q) (hi : pm_inv q.1 true st = some (.ref a :: as, rest)) (hc : cf mid (.ref a :: as) S = some (r, S')) (k : pm_E X M cf ret code b is (L, r.toList ++ rest, S') t) : pm_E X M cf ret code b (.invokespecial mid :: is) (L, st, S) t := by
  obtain ⟨o, h1, h2⟩ := k
  refine ⟨o, ?_, h2⟩
  simp only [pm_ex, hs, hi, pm_isR, if_true, hc]
  exact h1
end
