/-! printed by wip/whole/mkqv.py: rules that run a block over the heap as a function of numbers, with a post-condition -/
abbrev QPost : Type := Option Value → QST → Prop
def qP (X : pm_X) (PR : pm_P) (d mid : Nat) (as : List Value) (s : QST) (Q : QPost) : Prop := ∃ v s', pm_run X pm_Ms PR d mid as (qhp s) = some (v, qhp s') ∧ Q v s'
def qW (X : pm_X) (PR : pm_P) (d : Nat) (ret : Option FieldType) (code : List (Nat × List Instr)) (b : Nat) (L : List (Option Value)) (st : List Value) (s : QST) (Q : QPost) : Prop := ∃ v s', pm_to X pm_Ms (pm_run X pm_Ms PR d) ret code b (L, st, qhp s) (v, qhp s') ∧ Q v s'
def qV (X : pm_X) (PR : pm_P) (d : Nat) (ret : Option FieldType) (code : List (Nat × List Instr)) (b : Nat) (is : List Instr) (L : List (Option Value)) (st : List Value) (s : QST) (Q : QPost) : Prop := ∃ v s', pm_E X pm_Ms (pm_run X pm_Ms PR d) ret code b is (L, st, qhp s) (v, qhp s') ∧ Q v s'
theorem qP.mono {X : pm_X} {PR : pm_P} {d mid : Nat} {as : List Value} {s : QST} {Q Q' : QPost} (h : qP X PR d mid as s Q) (hq : ∀ v s', Q v s' → Q' v s') : qP X PR d mid as s Q' := by
  obtain ⟨v, s', h1, h2⟩ := h
  exact ⟨v, s', h1, hq _ _ h2⟩
theorem qP.eq {X : pm_X} {PR : pm_P} {d mid : Nat} {as : List Value} {s : QST} {r : Option Value} (h : pm_run X pm_Ms PR d mid as (qhp s) = some (r, qhp s)) : qP X PR d mid as s (fun v s' => v = r ∧ s' = s) := ⟨r, s, h, rfl, rfl⟩
theorem qP.run {X : pm_X} {PR : pm_P} {d mid : Nat} {as : List Value} {s : QST} {r : Option Value} (h : qP X PR d mid as s (fun v s' => v = r ∧ s' = s)) : pm_run X pm_Ms PR d mid as (qhp s) = some (r, qhp s) := by
  obtain ⟨v, s', h1, rfl, rfl⟩ := h
  exact h1
theorem qP.of {X : pm_X} {PR : pm_P} {d mid : Nat} {mm : pm_M} {as : List Value} {s : QST} {Q : QPost} {L : List (Option Value)} (hd : 1 ≤ d) (hP : PR mid = none) (hM : pm_Ms[mid]? = some mm) (hL : pm_ent mm.1.2.2.1 as = some L) (h : qW X PR (d - 1) mm.1.2.2.2 mm.2.2 0 L [] s Q) : qP X PR d mid as s Q := by
  obtain ⟨v, s', h1, h2⟩ := h
  exact ⟨v, s', pm_run_of hd hP hM hL h1, h2⟩
theorem qLY.rcv {c ci : Nat} {ts : List Nat} (h : qLY c (1, ci, ts)) (s : QST) : ∃ fs, pm_h (qhp s) c (.inr (ci, fs)) := ⟨_, by rw [← qcel_1 h]; exact qhp_cell h.1 h.2.1⟩
theorem qLY.a {c n : Nat} {ts : List Nat} (h : qLY c (0, n, ts)) (s : QST) : pm_h (qhp s) c (.inl (0, n, .inl (qE s c))) := by rw [← qcel_0 h]; exact qhp_cell h.1 h.2.1
theorem qLY.o {c ci : Nat} {ts : List Nat} (h : qLY c (1, ci, ts)) (s : QST) : pm_h (qhp s) c (.inr (ci, qfs s c 0 ts)) := by rw [← qcel_1 h]; exact qhp_cell h.1 h.2.1
theorem qLY.r {c ty : Nat} {ps : List Nat} (h : qLY c (2, ty, ps)) (s : QST) : pm_h (qhp s) c (.inl (ty, ps.getD 0 0, .inr (.inr (.inr (.inr (fun j => if j < ps.getD 0 0 then some (ps.getD 1 0 + ps.getD 2 0 * j) else none)))))) := by rw [← qcel_2 h]; exact qhp_cell h.1 h.2.1
theorem qLY.t {c n : Nat} {ts : List Nat} (h : qLY c (3, n, ts)) (s : QST) : pm_h (qhp s) c (.inl (3, n, .inr (.inr (.inr (.inr (qT s c)))))) := by rw [← qcel_3 h]; exact qhp_cell h.1 h.2.1
theorem qLY.l {c n : Nat} {ts : List Nat} (h : qLY c (4, n, ts)) (s : QST) : pm_h (qhp s) c (.inl (1, n, .inr (.inl (qL s c)))) := by rw [← qcel_4 h]; exact qhp_cell h.1 h.2.1
/-- a TREE's object and rows, behind -/
def qTR (R : List va_E) (A K : Nat) (w sc p : Nat → Int32) (q sd ask : Int32) : Prop := 204 ≤ A ∧ R[A - 204]? = some (.inr (8, [.int (nI K), .ref (A + 1), .ref (A + 2), .ref (A + 3), .int q, .int sd, .int ask])) ∧ R[A + 1 - 204]? = some (.inl (0, K, .inl w)) ∧ R[A + 2 - 204]? = some (.inl (0, K, .inl sc)) ∧ R[A + 3 - 204]? = some (.inl (0, K, .inl p))
theorem qTR.o {R : List va_E} {A K : Nat} {w sc p : Nat → Int32} {q sd ask : Int32} (h : qTR R A K w sc p q sd ask) {s : QST} (hR : qR s = R) : pm_h (qhp s) A (.inr (8, [.int (nI K), .ref (A + 1), .ref (A + 2), .ref (A + 3), .int q, .int sd, .int ask])) := qhp_rest h.1 (by rw [hR]; exact h.2.1)
theorem qTR.a1 {R : List va_E} {A K : Nat} {w sc p : Nat → Int32} {q sd ask : Int32} (h : qTR R A K w sc p q sd ask) {s : QST} (hR : qR s = R) : pm_h (qhp s) (A + 1) (.inl (0, K, .inl w)) := qhp_rest (by have := h.1; omega) (by rw [hR]; exact h.2.2.1)
theorem qTR.a2 {R : List va_E} {A K : Nat} {w sc p : Nat → Int32} {q sd ask : Int32} (h : qTR R A K w sc p q sd ask) {s : QST} (hR : qR s = R) : pm_h (qhp s) (A + 2) (.inl (0, K, .inl sc)) := qhp_rest (by have := h.1; omega) (by rw [hR]; exact h.2.2.2.1)
theorem qTR.a3 {R : List va_E} {A K : Nat} {w sc p : Nat → Int32} {q sd ask : Int32} (h : qTR R A K w sc p q sd ask) {s : QST} (hR : qR s = R) : pm_h (qhp s) (A + 3) (.inl (0, K, .inl p)) := qhp_rest (by have := h.1; omega) (by rw [hR]; exact h.2.2.2.2)
theorem qTR.rcv {R : List va_E} {A K : Nat} {w sc p : Nat → Int32} {q sd ask : Int32} (h : qTR R A K w sc p q sd ask) {s : QST} (hR : qR s = R) : ∃ fs, pm_h (qhp s) A (.inr (8, fs)) := ⟨_, h.o hR⟩
section
variable {X : pm_X} {PR : pm_P} {d : Nat} {ret : Option FieldType} {code : List (Nat × List Instr)} {b : Nat} {is is' : List Instr} {L L' : List (Option Value)} {st st' : List Value} {s s' : QST} {Q : QPost}
theorem qV.of (h : ∀ t, pm_E X pm_Ms (pm_run X pm_Ms PR d) ret code b is' (L', st', qhp s') t → pm_E X pm_Ms (pm_run X pm_Ms PR d) ret code b is (L, st, qhp s) t) (k : qV X PR d ret code b is' L' st' s' Q) : qV X PR d ret code b is L st s Q := by
  obtain ⟨v, s2, h1, h2⟩ := k
  exact ⟨v, s2, h _ h1, h2⟩
theorem qV.ofW {nx : Nat} (h : ∀ t, pm_to X pm_Ms (pm_run X pm_Ms PR d) ret code nx (L', st', qhp s') t → pm_E X pm_Ms (pm_run X pm_Ms PR d) ret code b is (L, st, qhp s) t) (k : qW X PR d ret code nx L' st' s' Q) : qV X PR d ret code b is L st s Q := by
  obtain ⟨v, s2, h1, h2⟩ := k
  exact ⟨v, s2, h _ h1, h2⟩
theorem qW.blk {pc : Nat} {ops : List Instr} (hb : code[b]? = some (pc, ops)) (h : qV X PR d ret code b ops L st s Q) : qW X PR d ret code b L st s Q := by
  obtain ⟨v, s', h1, h2⟩ := h
  exact ⟨v, s', pm_to.blk hb h1, h2⟩
theorem qW.mono {Q' : QPost} (h : qW X PR d ret code b L st s Q) (hq : ∀ v s', Q v s' → Q' v s') : qW X PR d ret code b L st s Q' := by
  obtain ⟨v, s', h1, h2⟩ := h
  exact ⟨v, s', h1, hq _ _ h2⟩
theorem qv_top {x y : Int32} (h : x = y) (k : qV X PR d ret code b is L (.int y :: st) s Q) : qV X PR d ret code b is L (.int x :: st) s Q := by
  subst h; exact k
theorem qv_sec {x y : Int32} {v : Value} (h : x = y) (k : qV X PR d ret code b is L (v :: .int y :: st) s Q) : qV X PR d ret code b is L (v :: .int x :: st) s Q := by
  subst h; exact k
theorem qv_nil {nx : Nat} (hn : b + 1 = nx) (k : qW X PR d ret code nx L st s Q) : qV X PR d ret code b [] L st s Q := qV.ofW (fun _ h => pe_nil hn h) k
theorem qv_goto {tt : Int} {tgt : Nat} (ht : tt.toNat = tgt) (k : qW X PR d ret code tgt L st s Q) : qV X PR d ret code b (.goto tt :: is) L st s Q := qV.ofW (fun _ h => pe_goto ht h) k
theorem qv_iconst {n : Int} {v : Int32} (hv : Int32.ofInt n = v) (k : qV X PR d ret code b is L (.int v :: st) s Q) : qV X PR d ret code b (.iconst n :: is) L (st) s Q := qV.of (fun _ z => pe_iconst hv z) k
theorem qv_lconst {n : Int} {v : Int64} (hv : Int64.ofInt n = v) (k : qV X PR d ret code b is L (.long v :: st) s Q) : qV X PR d ret code b (.goto_w n :: is) L (st) s Q := qV.of (fun _ z => pe_lconst hv z) k
theorem qv_null   (k : qV X PR d ret code b is L (.null :: st) s Q) : qV X PR d ret code b (.aconst_null :: is) L (st) s Q := qV.of (fun _ z => pe_null  z) k
theorem qv_gets {n : Nat}  (k : qV X PR d ret code b is L (.ref n :: st) s Q) : qV X PR d ret code b (.getstatic n :: is) L (st) s Q := qV.of (fun _ z => pe_gets  z) k
theorem qv_iload {i : Nat} {x : Int32} (h : pm_ld L i = some (.int x)) (k : qV X PR d ret code b is L (.int x :: st) s Q) : qV X PR d ret code b (.iload i :: is) L (st) s Q := qV.of (fun _ z => pe_iload h z) k
theorem qv_lload {i : Nat} {x : Int64} (h : pm_ld L i = some (.long x)) (k : qV X PR d ret code b is L (.long x :: st) s Q) : qV X PR d ret code b (.lload i :: is) L (st) s Q := qV.of (fun _ z => pe_lload h z) k
theorem qv_aload {i a : Nat} (h : pm_ld L i = some (.ref a)) (k : qV X PR d ret code b is L (.ref a :: st) s Q) : qV X PR d ret code b (.aload i :: is) L (st) s Q := qV.of (fun _ z => pe_aload h z) k
theorem qv_aloadN {i : Nat} (h : pm_ld L i = some .null) (k : qV X PR d ret code b is L (.null :: st) s Q) : qV X PR d ret code b (.aload i :: is) L (st) s Q := qV.of (fun _ z => pe_aloadN h z) k
theorem qv_istore {i : Nat} {x : Int32} (h : pm_st L i (.int x) = some L') (k : qV X PR d ret code b is L' (st) s Q) : qV X PR d ret code b (.istore i :: is) L (.int x :: st) s Q := qV.of (fun _ z => pe_istore h z) k
theorem qv_lstore {i : Nat} {x : Int64} (h : pm_st L i (.long x) = some L') (k : qV X PR d ret code b is L' (st) s Q) : qV X PR d ret code b (.lstore i :: is) L (.long x :: st) s Q := qV.of (fun _ z => pe_lstore h z) k
theorem qv_astore {i a : Nat} (h : pm_st L i (.ref a) = some L') (k : qV X PR d ret code b is L' (st) s Q) : qV X PR d ret code b (.astore i :: is) L (.ref a :: st) s Q := qV.of (fun _ z => pe_astore h z) k
theorem qv_astoreN {i : Nat} (h : pm_st L i .null = some L') (k : qV X PR d ret code b is L' (st) s Q) : qV X PR d ret code b (.astore i :: is) L (.null :: st) s Q := qV.of (fun _ z => pe_astoreN h z) k
theorem qv_iinc {i : Nat} {n : Int} {x v : Int32} (h : pm_ld L i = some (.int x)) (hv : x + Int32.ofInt n = v) (h2 : pm_st L i (.int v) = some L') (k : qV X PR d ret code b is L' (st) s Q) : qV X PR d ret code b (.iinc i n :: is) L (st) s Q := qV.of (fun _ z => pe_iinc h hv h2 z) k
theorem qv_iadd {x y : Int32}  (k : qV X PR d ret code b is L (.int (x + y) :: st) s Q) : qV X PR d ret code b (.iadd :: is) L (.int y :: .int x :: st) s Q := qV.of (fun _ z => pe_iadd  z) k
theorem qv_isub {x y : Int32}  (k : qV X PR d ret code b is L (.int (x - y) :: st) s Q) : qV X PR d ret code b (.isub :: is) L (.int y :: .int x :: st) s Q := qV.of (fun _ z => pe_isub  z) k
theorem qv_imul {x y : Int32}  (k : qV X PR d ret code b is L (.int (x * y) :: st) s Q) : qV X PR d ret code b (.imul :: is) L (.int y :: .int x :: st) s Q := qV.of (fun _ z => pe_imul  z) k
theorem qv_iand {x y : Int32}  (k : qV X PR d ret code b is L (.int (x &&& y) :: st) s Q) : qV X PR d ret code b (.iand :: is) L (.int y :: .int x :: st) s Q := qV.of (fun _ z => pe_iand  z) k
theorem qv_ior {x y : Int32}  (k : qV X PR d ret code b is L (.int (x ||| y) :: st) s Q) : qV X PR d ret code b (.ior :: is) L (.int y :: .int x :: st) s Q := qV.of (fun _ z => pe_ior  z) k
theorem qv_ixor {x y : Int32}  (k : qV X PR d ret code b is L (.int (x ^^^ y) :: st) s Q) : qV X PR d ret code b (.ixor :: is) L (.int y :: .int x :: st) s Q := qV.of (fun _ z => pe_ixor  z) k
theorem qv_ishl {x y : Int32}  (k : qV X PR d ret code b is L (.int (x <<< (y &&& 31)) :: st) s Q) : qV X PR d ret code b (.ishl :: is) L (.int y :: .int x :: st) s Q := qV.of (fun _ z => pe_ishl  z) k
theorem qv_ishr {x y : Int32}  (k : qV X PR d ret code b is L (.int (x >>> (y &&& 31)) :: st) s Q) : qV X PR d ret code b (.ishr :: is) L (.int y :: .int x :: st) s Q := qV.of (fun _ z => pe_ishr  z) k
theorem qv_iushr {x y : Int32}  (k : qV X PR d ret code b is L (.int ((x.toUInt32 >>> (y.toUInt32 &&& Int32.toUInt32 31)).toInt32) :: st) s Q) : qV X PR d ret code b (.iushr :: is) L (.int y :: .int x :: st) s Q := qV.of (fun _ z => pe_iushr  z) k
theorem qv_iaddN {x y : Int32} {p q : Nat} (hx : x = nI p) (hy : y = nI q) (k : qV X PR d ret code b is L (.int (nI (p + q)) :: st) s Q) : qV X PR d ret code b (.iadd :: is) L (.int y :: .int x :: st) s Q := by
  subst hx; subst hy
  exact qv_iadd (by rw [nI_add]; exact k)
theorem qv_imulN {x y : Int32} {p q : Nat} (hx : x = nI p) (hy : y = nI q) (k : qV X PR d ret code b is L (.int (nI (p * q)) :: st) s Q) : qV X PR d ret code b (.imul :: is) L (.int y :: .int x :: st) s Q := by
  subst hx; subst hy
  exact qv_imul (by rw [pk_mul]; exact k)
theorem qv_isubN {x y : Int32} {p q : Nat} (hx : x = nI p) (hy : y = nI q) (hle : q ≤ p) (k : qV X PR d ret code b is L (.int (nI (p - q)) :: st) s Q) : qV X PR d ret code b (.isub :: is) L (.int y :: .int x :: st) s Q := by
  subst hx; subst hy
  exact qv_isub (by rw [pk_sub hle]; exact k)
theorem qv_idiv {x y : Int32} (h : ¬ y = 0) (k : qV X PR d ret code b is L (.int (x / y) :: st) s Q) : qV X PR d ret code b (.idiv :: is) L (.int y :: .int x :: st) s Q := qV.of (fun _ z => pe_idiv h z) k
theorem qv_irem {x y : Int32} (h : ¬ y = 0) (k : qV X PR d ret code b is L (.int (x - x / y * y) :: st) s Q) : qV X PR d ret code b (.irem :: is) L (.int y :: .int x :: st) s Q := qV.of (fun _ z => pe_irem h z) k
theorem qv_idivN {x y : Int32} {p q : Nat} (hx : x = nI p) (hy : y = nI q) (hp : p < 2 ^ 31) (h0 : 0 < q) (hq : q < 2 ^ 31) (k : qV X PR d ret code b is L (.int (nI (p / q)) :: st) s Q) : qV X PR d ret code b (.idiv :: is) L (.int y :: .int x :: st) s Q := by
  subst hx; subst hy
  exact qv_idiv (nI_ne0 h0 hq) (by rw [pk_div hp h0 hq]; exact k)
theorem qv_iremN {x y : Int32} {p q : Nat} (hx : x = nI p) (hy : y = nI q) (hp : p < 2 ^ 31) (h0 : 0 < q) (hq : q < 2 ^ 31) (k : qV X PR d ret code b is L (.int (nI (p % q)) :: st) s Q) : qV X PR d ret code b (.irem :: is) L (.int y :: .int x :: st) s Q := by
  subst hx; subst hy
  exact qv_irem (nI_ne0 h0 hq) (by rw [pk_rem hp h0 hq]; exact k)
theorem qv_ineg {x : Int32}  (k : qV X PR d ret code b is L (.int (-x) :: st) s Q) : qV X PR d ret code b (.ineg :: is) L (.int x :: st) s Q := qV.of (fun _ z => pe_ineg  z) k
theorem qv_i2l {x : Int32}  (k : qV X PR d ret code b is L (.long x.toInt64 :: st) s Q) : qV X PR d ret code b (.i2l :: is) L (.int x :: st) s Q := qV.of (fun _ z => pe_i2l  z) k
theorem qv_i2b {x : Int32}  (k : qV X PR d ret code b is L (.int x.toInt8.toInt32 :: st) s Q) : qV X PR d ret code b (.i2b :: is) L (.int x :: st) s Q := qV.of (fun _ z => pe_i2b  z) k
theorem qv_i2s {x : Int32}  (k : qV X PR d ret code b is L (.int x.toInt16.toInt32 :: st) s Q) : qV X PR d ret code b (.i2s :: is) L (.int x :: st) s Q := qV.of (fun _ z => pe_i2s  z) k
theorem qv_l2i {x : Int64}  (k : qV X PR d ret code b is L (.int x.toInt32 :: st) s Q) : qV X PR d ret code b (.l2i :: is) L (.long x :: st) s Q := qV.of (fun _ z => pe_l2i  z) k
theorem qv_ladd {x y : Int64}  (k : qV X PR d ret code b is L (.long (x + y) :: st) s Q) : qV X PR d ret code b (.ladd :: is) L (.long y :: .long x :: st) s Q := qV.of (fun _ z => pe_ladd  z) k
theorem qv_lmul {x y : Int64}  (k : qV X PR d ret code b is L (.long (x * y) :: st) s Q) : qV X PR d ret code b (.lmul :: is) L (.long y :: .long x :: st) s Q := qV.of (fun _ z => pe_lmul  z) k
theorem qv_lcmp {x y : Int64}  (k : qV X PR d ret code b is L (.int (lg_cmp x y) :: st) s Q) : qV X PR d ret code b (.lcmp :: is) L (.long y :: .long x :: st) s Q := qV.of (fun _ z => pe_lcmp  z) k
theorem qv_dup {v : Value} (h : v.category = 1) (k : qV X PR d ret code b is L (v :: v :: st) s Q) : qV X PR d ret code b (.dup :: is) L (v :: st) s Q := qV.of (fun _ z => pe_dup h z) k
theorem qv_dup2 {v w : Value} (h : v.category = 1) (h2 : w.category = 1) (k : qV X PR d ret code b is L (v :: w :: v :: w :: st) s Q) : qV X PR d ret code b (.dup2 :: is) L (v :: w :: st) s Q := qV.of (fun _ z => pe_dup2 h h2 z) k
theorem qv_pop {v : Value} (h : v.category = 1) (k : qV X PR d ret code b is L (st) s Q) : qV X PR d ret code b (.pop :: is) L (v :: st) s Q := qV.of (fun _ z => pe_pop h z) k
theorem qv_pop2 {x : Int64}  (k : qV X PR d ret code b is L (st) s Q) : qV X PR d ret code b (.pop2 :: is) L (.long x :: st) s Q := qV.of (fun _ z => pe_pop2  z) k
theorem qv_max {x y : Int32} (h : (st.map fun v => v.category).sum ≤ 8) (k : qV X PR d ret code b is L (.int (if x < y then y else x) :: st) s Q) : qV X PR d ret code b (.dup_x1 :: is) L (.int y :: .int x :: st) s Q := qV.of (fun _ z => pe_max h z) k
theorem qv_min {x y : Int32} (h : (st.map fun v => v.category).sum ≤ 8) (k : qV X PR d ret code b is L (.int (if y < x then y else x) :: st) s Q) : qV X PR d ret code b (.dup_x2 :: is) L (.int y :: .int x :: st) s Q := qV.of (fun _ z => pe_min h z) k
theorem qv_oini {a : Nat} (h : (st.map fun v => v.category).sum ≤ 8) (k : qV X PR d ret code b is L (st) s Q) : qV X PR d ret code b (.monitorenter :: is) L (.ref a :: st) s Q := qV.of (fun _ z => pe_oini h z) k
theorem qv_gh {a ci n : Nat} {fs : List Value} {v : Value} (h : pm_h (qhp s) a (.inr (ci, fs))) (hc : ci = n / 64) (hv : fs[n % 64]? = some v) (k : qV X PR d ret code b is L (v :: st) s Q) : qV X PR d ret code b (.getfield n :: is) L (.ref a :: st) s Q := qV.of (fun _ z => pe_getf h hc hv z) k
theorem qv_gi {c ci n kf : Nat} {ts : List Nat} {v : Int32} (hl : qLY c (1, ci, ts)) (hn : ci = n / 64 ∧ n % 64 = kf ∧ ts[kf]? = some 0) (hv : qF s c kf = v) (k : qV X PR d ret code b is L (.int v :: st) s Q) : qV X PR d ret code b (.getfield n :: is) L (.ref c :: st) s Q := by
  obtain ⟨h1, h2, h3⟩ := hn
  refine qv_gh (hl.o s) h1 ?_ k
  rw [h2, qfs_get, h3, ← hv, Nat.zero_add]
  rfl
theorem qv_gr {c ci n kf r : Nat} {ts : List Nat} (hl : qLY c (1, ci, ts)) (hn : ci = n / 64 ∧ n % 64 = kf ∧ ts[kf]? = some r) (hr : 2 ≤ r) (k : qV X PR d ret code b is L (.ref r :: st) s Q) : qV X PR d ret code b (.getfield n :: is) L (.ref c :: st) s Q := by
  obtain ⟨h1, h2, h3⟩ := hn
  refine qv_gh (hl.o s) h1 ?_ k
  rw [h2, qfs_get, h3]
  show some (if r = 0 then _ else if r = 1 then _ else _) = _
  rw [if_neg (by omega), if_neg (by omega)]
theorem qv_gx {v : Value} (hv : qX s = v) (k : qV X PR d ret code b is L (v :: st) s Q) : qV X PR d ret code b (.getfield 384 :: is) L (.ref 70 :: st) s Q := by
  refine qv_gh (ly_70.o s) rfl ?_ k
  rw [← hv]; rfl
theorem qv_pi {c ci n kf : Nat} {ts : List Nat} {v : Int32} (hl : qLY c (1, ci, ts)) (hn : ci = n / 64 ∧ n % 64 = kf ∧ ts[kf]? = some 0) (hf : pm_fit (pm_ty (n / 64) (n % 64)) (.int v) = true) (k : qV X PR d ret code b is L st (uF s c kf v) Q) : qV X PR d ret code b (.putfield n :: is) L (.int v :: .ref c :: st) s Q := by
  obtain ⟨h1, h2, h3⟩ := hn
  refine qV.of (fun _ z => pe_putf (hl.o s) h1 ?_ hf rfl ?_) k
  · rw [h2, qfs_len]; exact (List.getElem?_eq_some_iff.mp h3).1
  · rw [h2, qhp_uF hl h3]; exact z
theorem qv_px {v : Value} (hf : pm_fit (pm_ty 6 0) v = true) (k : qV X PR d ret code b is L st (uX s v) Q) : qV X PR d ret code b (.putfield 384 :: is) L (v :: .ref 70 :: st) s Q := by
  refine qV.of (fun _ z => pe_putf (ly_70.o s) rfl ?_ hf rfl ?_) k
  · rw [qfs_len]; decide
  · have := qhp_uX (s := s) (v := v)
    rw [show (384 % 64 : Nat) = 0 from rfl, this]; exact z
theorem qv_iah {a n j : Nat} {i v : Int32} {g : Nat → Int32} (h : pm_h (qhp s) a (.inl (0, n, .inl g))) (hi : i = nI j) (hj : j < n) (hn : n < 2 ^ 31) (hv : g j = v) (k : qV X PR d ret code b is L (.int v :: st) s Q) : qV X PR d ret code b (.iaload :: is) L (.int i :: .ref a :: st) s Q := qV.of (fun _ z => pe_ialdN h hi hj hn (by rw [hv]; exact z)) k
theorem qv_ia {c n j : Nat} {ts : List Nat} {i v : Int32} (hl : qLY c (0, n, ts)) (hi : i = nI j) (hj : j < n) (hn : n < 2 ^ 31) (hv : qE s c j = v) (k : qV X PR d ret code b is L (.int v :: st) s Q) : qV X PR d ret code b (.iaload :: is) L (.int i :: .ref c :: st) s Q := qv_iah (hl.a s) hi hj hn hv k
theorem qv_ix {a n j : Nat} {i v : Int32} {g : Nat → Int32} (h : X a = some (n, g)) (ha : a < 8) (hi : i = nI j) (hj : j < n) (hn : n < 2 ^ 31) (hv : g j = v) (k : qV X PR d ret code b is L (.int v :: st) s Q) : qV X PR d ret code b (.iaload :: is) L (.int i :: .ref a :: st) s Q := by
  subst hi
  refine qV.of (fun _ z => pe_ialdX h ha (vp_in_nI hj hn) ?_) k
  rw [nI_clamp (Nat.lt_trans hj hn), hv]
  exact z
theorem qv_is {c n j : Nat} {ts : List Nat} {i x : Int32} (hl : qLY c (0, n, ts)) (hi : i = nI j) (hj : j < n) (hn : n < 2 ^ 31) (k : qV X PR d ret code b is L st (uE s c j x) Q) : qV X PR d ret code b (.iastore :: is) L (.int x :: .int i :: .ref c :: st) s Q := qV.of (fun _ z => pe_iastN (hl.a s) hi hj hn (by rw [qhp_uE hl]; exact z)) k
theorem qv_la {c n j : Nat} {ts : List Nat} {i : Int32} {v : Int64} (hl : qLY c (4, n, ts)) (hi : i = nI j) (hj : j < n) (hn : n < 2 ^ 31) (hv : qL s c j = v) (k : qV X PR d ret code b is L (.long v :: st) s Q) : qV X PR d ret code b (.laload :: is) L (.int i :: .ref c :: st) s Q := by
  subst hi
  refine qV.of (fun _ z => pe_lald (hl.l s) (vp_in_nI hj hn) ?_) k
  rw [nI_clamp (Nat.lt_trans hj hn), hv]
  exact z
theorem qv_ls {c n j : Nat} {ts : List Nat} {i : Int32} {x : Int64} (hl : qLY c (4, n, ts)) (hi : i = nI j) (hj : j < n) (hn : n < 2 ^ 31) (k : qV X PR d ret code b is L st (uL s c j x) Q) : qV X PR d ret code b (.lastore :: is) L (.long x :: .int i :: .ref c :: st) s Q := by
  subst hi
  refine qV.of (fun _ z => pe_last (hl.l s) (vp_in_nI hj hn) ?_) k
  rw [nI_clamp (Nat.lt_trans hj hn), qhp_uL hl]
  exact z
theorem qv_aa {c ty j r : Nat} {ps : List Nat} {i : Int32} (hl : qLY c (2, ty, ps)) (hi : i = nI j) (hj : j < ps.getD 0 0) (hn : ps.getD 0 0 < 2 ^ 31 ∧ 2 ≤ ty ∧ ty < 5) (hr : ps.getD 1 0 + ps.getD 2 0 * j = r) (k : qV X PR d ret code b is L (.ref r :: st) s Q) : qV X PR d ret code b (.aaload :: is) L (.int i :: .ref c :: st) s Q := by
  refine qV.of (fun _ z => pe_aaldN (hl.r s) hn.2 hi hj hn.1 (v := r) ?_ z) k
  rw [if_pos hj, hr]
theorem qv_ad {c n j r : Nat} {ts : List Nat} {i : Int32} (hl : qLY c (3, n, ts)) (hi : i = nI j) (hj : j < n) (hn : n < 2 ^ 31) (hr : qT s c j = some r) (k : qV X PR d ret code b is L (.ref r :: st) s Q) : qV X PR d ret code b (.aaload :: is) L (.int i :: .ref c :: st) s Q := qV.of (fun _ z => pe_aaldN (hl.t s) (by decide) hi hj hn hr z) k
theorem qv_as {c n j r : Nat} {ts : List Nat} {fs : List Value} {i : Int32} (hl : qLY c (3, n, ts)) (hi : i = nI j) (hj : j < n) (hn : n < 2 ^ 31) (hr : pm_h (qhp s) r (.inr (8, fs))) (k : qV X PR d ret code b is L st (uT s c j (some r)) Q) : qV X PR d ret code b (.aastore :: is) L (.ref r :: .int i :: .ref c :: st) s Q := by
  subst hi
  refine qV.of (fun _ z => pe_aast (hl.t s) hr (by decide) (vp_in_nI hj hn) ?_) k
  rw [nI_clamp (Nat.lt_trans hj hn), qhp_uT hl]
  exact z
theorem qv_al {c n : Nat} {ts : List Nat} (hl : qLY c (0, n, ts)) (k : qV X PR d ret code b is L (.int (nI n) :: st) s Q) : qV X PR d ret code b (.arraylength :: is) L (.ref c :: st) s Q := qV.of (fun _ z => pe_alen (hl.a s) z) k
theorem qv_alX {a n : Nat} {g : Nat → Int32} (h : X a = some (n, g)) (ha : a < 8) (k : qV X PR d ret code b is L (.int (nI n) :: st) s Q) : qV X PR d ret code b (.arraylength :: is) L (.ref a :: st) s Q := qV.of (fun _ z => pe_alenX h ha z) k
theorem qv_copyG {c a0 n0 n1 p q m : Nat} {ts : List Nat} {g0 : Nat → Int32} {sp dp n : Int32} (h0 : pm_get X (qhp s).1 a0 = some (.inl (0, n0, .inl g0))) (hl : qLY c (0, n1, ts)) (hp : sp = nI p) (hq : dp = nI q) (hm : n = nI m) (hb : p + m ≤ n0 ∧ q + m ≤ n1 ∧ n0 < 2 ^ 30 ∧ n1 < 2 ^ 30) (hs : (st.map fun v => v.category).sum ≤ 8) (k : qV X PR d ret code b is L st (uA s c (va_cpy g0 (qE s c) p q m)) Q) : qV X PR d ret code b (.swap :: is) L (.int n :: .int dp :: .ref c :: .int sp :: .ref a0 :: st) s Q := by
  subst hp; subst hq; subst hm
  obtain ⟨b1, b2, b3, b4⟩ := hb
  refine qV.of (fun _ z => pe_copy hs h0 (hl.a s) ?_ ?_) k
  · rw [nI_clamp (n := p) (by omega), nI_clamp (n := q) (by omega), nI_clamp (n := m) (by omega)]
    have e1 := nI_pos (n := p) (by omega)
    have e2 := nI_pos (n := q) (by omega)
    have e3 := nI_pos (n := m) (by omega)
    intro h
    rcases h with h | h | h | h | h
    · exact e1 h
    · exact e2 h
    · exact e3 h
    · omega
    · omega
  · rw [nI_clamp (n := p) (by omega), nI_clamp (n := q) (by omega), nI_clamp (n := m) (by omega), qhp_uA hl]
    exact z
theorem qv_copy {c c0 n0 n1 p q m : Nat} {ts ts0 : List Nat} {sp dp n : Int32} (hl0 : qLY c0 (0, n0, ts0)) (hl : qLY c (0, n1, ts)) (hp : sp = nI p) (hq : dp = nI q) (hm : n = nI m) (hb : p + m ≤ n0 ∧ q + m ≤ n1 ∧ n0 < 2 ^ 30 ∧ n1 < 2 ^ 30) (hs : (st.map fun v => v.category).sum ≤ 8) (k : qV X PR d ret code b is L st (uA s c (va_cpy (qE s c0) (qE s c) p q m)) Q) : qV X PR d ret code b (.swap :: is) L (.int n :: .int dp :: .ref c :: .int sp :: .ref c0 :: st) s Q := qv_copyG (hl0.a s).get hl hp hq hm hb hs k
theorem qv_copyX {c a0 n0 n1 p q m : Nat} {ts : List Nat} {g0 : Nat → Int32} {sp dp n : Int32} (h0 : X a0 = some (n0, g0)) (ha : a0 < 8) (hl : qLY c (0, n1, ts)) (hp : sp = nI p) (hq : dp = nI q) (hm : n = nI m) (hb : p + m ≤ n0 ∧ q + m ≤ n1 ∧ n0 < 2 ^ 30 ∧ n1 < 2 ^ 30) (hs : (st.map fun v => v.category).sum ≤ 8) (k : qV X PR d ret code b is L st (uA s c (va_cpy g0 (qE s c) p q m)) Q) : qV X PR d ret code b (.swap :: is) L (.int n :: .int dp :: .ref c :: .int sp :: .ref a0 :: st) s Q := qv_copyG (by unfold pm_get; rw [if_pos ha, h0]; rfl) hl hp hq hm hb hs k
theorem qv_iret {x : Int32} (h : pm_ret ret (.int x) = true) (hq : Q (some (.int x)) s) : qV X PR d ret code b (.ireturn :: is) L [.int x] s Q := ⟨_, s, pe_iret h rfl, hq⟩
theorem qv_lret {x : Int64} (h : ret = some .long) (hq : Q (some (.long x)) s) : qV X PR d ret code b (.lreturn :: is) L [.long x] s Q := ⟨_, s, pe_lret h rfl, hq⟩
theorem qv_aret {v : Value} (h : pm_isA v = true ∧ pm_ret ret v = true) (hq : Q (some v) s) : qV X PR d ret code b (.areturn :: is) L [v] s Q := ⟨_, s, pe_aret h rfl, hq⟩
theorem qv_ret (h : ret = none) (hq : Q none s) : qV X PR d ret code b (.return_ :: is) L [] s Q := ⟨_, s, pe_ret h rfl, hq⟩
theorem qv_null_t {tt : Int} {tgt : Nat} (ht : tt.toNat = tgt) (k : qW X PR d ret code tgt L st s Q) : qV X PR d ret code b (.ifnull tt :: is) L (.null :: st) s Q := qV.ofW (fun _ z => pe_null_t ht z) k
theorem qv_null_f {tt : Int} {a nx : Nat} (hn : b + 1 = nx) (k : qW X PR d ret code nx L st s Q) : qV X PR d ret code b (.ifnull tt :: is) L (.ref a :: st) s Q := qV.ofW (fun _ z => pe_null_f hn z) k
theorem qv_nonnull_t {tt : Int} {a tgt : Nat} (ht : tt.toNat = tgt) (k : qW X PR d ret code tgt L st s Q) : qV X PR d ret code b (.ifnonnull tt :: is) L (.ref a :: st) s Q := qV.ofW (fun _ z => pe_nonnull_t ht z) k
theorem qv_nonnull_f {tt : Int} {nx : Nat} (hn : b + 1 = nx) (k : qW X PR d ret code nx L st s Q) : qV X PR d ret code b (.ifnonnull tt :: is) L (.null :: st) s Q := qV.ofW (fun _ z => pe_nonnull_f hn z) k
theorem qv_table {dd lo hi tt : Int} {offs : Array Int} {x : Int32} {tgt : Nat} (h : pm_tab dd lo hi offs x = some tt) (ht : tt.toNat = tgt) (k : qW X PR d ret code tgt L st s Q) : qV X PR d ret code b (.tableswitch dd lo hi offs :: is) L (.int x :: st) s Q := qV.ofW (fun _ z => pe_table h ht z) k
theorem qv_lookup {dd : Int} {ps : Array (Int × Int)} {x : Int32} {tgt : Nat} (ht : (Op.lookupswitch.offset ps.toList dd x.toInt).toNat = tgt) (k : qW X PR d ret code tgt L st s Q) : qV X PR d ret code b (.lookupswitch dd ps :: is) L (.int x :: st) s Q := qV.ofW (fun _ z => pe_lookup ht z) k
theorem qv_static {mid : Nat} {q : Nat × Nat} {as rest : List Value} (hs : pm_sig pm_Ms mid = some q) (hi : pm_inv q.1 false st = some (as, rest)) (hc : qP X PR d mid as s (fun v s' => qV X PR d ret code b is L (v.toList ++ rest) s' Q)) : qV X PR d ret code b (.invokestatic mid :: is) L st s Q := by
  obtain ⟨v, s', h1, h2⟩ := hc
  exact qV.of (fun _ z => pe_static hs hi h1 z) h2
theorem qv_virt {mid a ci : Nat} {q : Nat × Nat} {as rest : List Value} (hr : ∃ fs, pm_h (qhp s) a (.inr (ci, fs))) (hs : pm_sig pm_Ms mid = some q) (hi : pm_inv q.1 true st = some (.ref a :: as, rest)) (hq : q.2 = ci) (hc : qP X PR d mid (.ref a :: as) s (fun v s' => qV X PR d ret code b is L (v.toList ++ rest) s' Q)) : qV X PR d ret code b (.invokevirtual mid :: is) L st s Q := by
  obtain ⟨v, s', h1, h2⟩ := hc
  obtain ⟨fs, hr⟩ := hr
  exact qV.of (fun _ z => pe_virt hs hi hr hq h1 z) h2
theorem qv_spec {mid a : Nat} {q : Nat × Nat} {as rest : List Value} (hs : pm_sig pm_Ms mid = some q) (hi : pm_inv q.1 true st = some (.ref a :: as, rest)) (hc : qP X PR d mid (.ref a :: as) s (fun v s' => qV X PR d ret code b is L (v.toList ++ rest) s' Q)) : qV X PR d ret code b (.invokespecial mid :: is) L st s Q := by
  obtain ⟨v, s', h1, h2⟩ := hc
  exact qV.of (fun _ z => pe_spec hs hi h1 z) h2
theorem qv_staticE {mid : Nat} {q : Nat × Nat} {as rest : List Value} {r : Option Value} (hs : pm_sig pm_Ms mid = some q) (hi : pm_inv q.1 false st = some (as, rest)) (hc : pm_run X pm_Ms PR d mid as (qhp s) = some (r, qhp s)) (k : qV X PR d ret code b is L (r.toList ++ rest) s Q) : qV X PR d ret code b (.invokestatic mid :: is) L st s Q := qV.of (fun _ z => pe_static hs hi hc z) k
theorem qv_virtE {mid a ci : Nat} {q : Nat × Nat} {as rest : List Value} {r : Option Value} (hr : ∃ fs, pm_h (qhp s) a (.inr (ci, fs))) (hs : pm_sig pm_Ms mid = some q) (hi : pm_inv q.1 true st = some (.ref a :: as, rest)) (hq : q.2 = ci) (hc : pm_run X pm_Ms PR d mid (.ref a :: as) (qhp s) = some (r, qhp s)) (k : qV X PR d ret code b is L (r.toList ++ rest) s Q) : qV X PR d ret code b (.invokevirtual mid :: is) L st s Q := by
  obtain ⟨fs, hr⟩ := hr
  exact qV.of (fun _ z => pe_virt hs hi hr hq hc z) k
theorem qv_specE {mid a : Nat} {q : Nat × Nat} {as rest : List Value} {r : Option Value} (hs : pm_sig pm_Ms mid = some q) (hi : pm_inv q.1 true st = some (.ref a :: as, rest)) (hc : pm_run X pm_Ms PR d mid (.ref a :: as) (qhp s) = some (r, qhp s)) (k : qV X PR d ret code b is L (r.toList ++ rest) s Q) : qV X PR d ret code b (.invokespecial mid :: is) L st s Q := qV.of (fun _ z => pe_spec hs hi hc z) k
theorem qv_if_eq {x : Int32} {tt : Int} {tgt nx : Nat} (ht : tt.toNat = tgt) (hn : b + 1 = nx) (k1 : x = 0 → qW X PR d ret code tgt L st s Q) (k2 : ¬ (x = 0) → qW X PR d ret code nx L st s Q) : qV X PR d ret code b (.ifCond .eq tt :: is) L (.int x :: st) s Q := by
  by_cases hc : x = 0
  · exact qV.ofW (fun _ z => pe_if_eq (nx := b + 1) ht rfl (fun _ => z) (fun h => absurd hc h)) (k1 hc)
  · exact qV.ofW (fun _ z => pe_if_eq (tgt := tt.toNat) rfl hn (fun h => absurd h hc) (fun _ => z)) (k2 hc)
theorem qv_if_eq_t {x : Int32} {tt : Int} {tgt : Nat} (hc : x = 0) (ht : tt.toNat = tgt) (k1 : qW X PR d ret code tgt L st s Q) : qV X PR d ret code b (.ifCond .eq tt :: is) L (.int x :: st) s Q := qv_if_eq ht rfl (fun _ => k1) (fun h => absurd hc h)
theorem qv_if_eq_f {x : Int32} {tt : Int} {nx : Nat} (hc : ¬ (x = 0)) (hn : b + 1 = nx) (k2 : qW X PR d ret code nx L st s Q) : qV X PR d ret code b (.ifCond .eq tt :: is) L (.int x :: st) s Q := qv_if_eq (tgt := tt.toNat) rfl hn (fun h => absurd h hc) (fun _ => k2)
theorem qv_if_eqN {x : Int32} {p : Nat} {tt : Int} {tgt nx : Nat} (hx : x = nI p) (hp : p < 2 ^ 31) (ht : tt.toNat = tgt) (hn : b + 1 = nx) (k1 : p = 0 → qW X PR d ret code tgt L st s Q) (k2 : ¬ (p = 0) → qW X PR d ret code nx L st s Q) : qV X PR d ret code b (.ifCond .eq tt :: is) L (.int x :: st) s Q := by
  subst hx
  exact qv_if_eq ht hn (fun h => k1 ((nI_eq hp (show 0 < 2 ^ 31 by decide)).mp h)) (fun h => k2 (fun z => h ((nI_eq hp (show 0 < 2 ^ 31 by decide)).mpr z)))
theorem qv_if_eqNt {x : Int32} {p : Nat} {tt : Int} {tgt : Nat} (hx : x = nI p) (hp : p < 2 ^ 31) (hc : p = 0) (ht : tt.toNat = tgt) (k1 : qW X PR d ret code tgt L st s Q) : qV X PR d ret code b (.ifCond .eq tt :: is) L (.int x :: st) s Q := qv_if_eqN hx hp ht rfl (fun _ => k1) (fun h => absurd hc h)
theorem qv_if_eqNf {x : Int32} {p : Nat} {tt : Int} {nx : Nat} (hx : x = nI p) (hp : p < 2 ^ 31) (hc : ¬ (p = 0)) (hn : b + 1 = nx) (k2 : qW X PR d ret code nx L st s Q) : qV X PR d ret code b (.ifCond .eq tt :: is) L (.int x :: st) s Q := qv_if_eqN hx hp (tgt := tt.toNat) rfl hn (fun h => absurd h hc) (fun _ => k2)
theorem qv_icmp_eq {x y : Int32} {tt : Int} {tgt nx : Nat} (ht : tt.toNat = tgt) (hn : b + 1 = nx) (k1 : x = y → qW X PR d ret code tgt L st s Q) (k2 : ¬ (x = y) → qW X PR d ret code nx L st s Q) : qV X PR d ret code b (.if_icmp .eq tt :: is) L (.int y :: .int x :: st) s Q := by
  by_cases hc : x = y
  · exact qV.ofW (fun _ z => pe_icmp_eq (nx := b + 1) ht rfl (fun _ => z) (fun h => absurd hc h)) (k1 hc)
  · exact qV.ofW (fun _ z => pe_icmp_eq (tgt := tt.toNat) rfl hn (fun h => absurd h hc) (fun _ => z)) (k2 hc)
theorem qv_icmp_eq_t {x y : Int32} {tt : Int} {tgt : Nat} (hc : x = y) (ht : tt.toNat = tgt) (k1 : qW X PR d ret code tgt L st s Q) : qV X PR d ret code b (.if_icmp .eq tt :: is) L (.int y :: .int x :: st) s Q := qv_icmp_eq ht rfl (fun _ => k1) (fun h => absurd hc h)
theorem qv_icmp_eq_f {x y : Int32} {tt : Int} {nx : Nat} (hc : ¬ (x = y)) (hn : b + 1 = nx) (k2 : qW X PR d ret code nx L st s Q) : qV X PR d ret code b (.if_icmp .eq tt :: is) L (.int y :: .int x :: st) s Q := qv_icmp_eq (tgt := tt.toNat) rfl hn (fun h => absurd h hc) (fun _ => k2)
theorem qv_icmp_eqN {x y : Int32} {p q : Nat} {tt : Int} {tgt nx : Nat} (hx : x = nI p) (hy : y = nI q) (hp : p < 2 ^ 31) (hq : q < 2 ^ 31) (ht : tt.toNat = tgt) (hn : b + 1 = nx) (k1 : p = q → qW X PR d ret code tgt L st s Q) (k2 : ¬ (p = q) → qW X PR d ret code nx L st s Q) : qV X PR d ret code b (.if_icmp .eq tt :: is) L (.int y :: .int x :: st) s Q := by
  subst hx; subst hy
  exact qv_icmp_eq ht hn (fun h => k1 ((nI_eq hp hq).mp h)) (fun h => k2 (fun z => h ((nI_eq hp hq).mpr z)))
theorem qv_icmp_eqNt {x y : Int32} {p q : Nat} {tt : Int} {tgt : Nat} (hx : x = nI p) (hy : y = nI q) (hp : p < 2 ^ 31) (hq : q < 2 ^ 31) (hc : p = q) (ht : tt.toNat = tgt) (k1 : qW X PR d ret code tgt L st s Q) : qV X PR d ret code b (.if_icmp .eq tt :: is) L (.int y :: .int x :: st) s Q := qv_icmp_eqN hx hy hp hq ht rfl (fun _ => k1) (fun h => absurd hc h)
theorem qv_icmp_eqNf {x y : Int32} {p q : Nat} {tt : Int} {nx : Nat} (hx : x = nI p) (hy : y = nI q) (hp : p < 2 ^ 31) (hq : q < 2 ^ 31) (hc : ¬ (p = q)) (hn : b + 1 = nx) (k2 : qW X PR d ret code nx L st s Q) : qV X PR d ret code b (.if_icmp .eq tt :: is) L (.int y :: .int x :: st) s Q := qv_icmp_eqN hx hy hp hq (tgt := tt.toNat) rfl hn (fun h => absurd h hc) (fun _ => k2)
theorem qv_if_ne {x : Int32} {tt : Int} {tgt nx : Nat} (ht : tt.toNat = tgt) (hn : b + 1 = nx) (k1 : ¬ x = 0 → qW X PR d ret code tgt L st s Q) (k2 : ¬ (¬ x = 0) → qW X PR d ret code nx L st s Q) : qV X PR d ret code b (.ifCond .ne tt :: is) L (.int x :: st) s Q := by
  by_cases hc : ¬ x = 0
  · exact qV.ofW (fun _ z => pe_if_ne (nx := b + 1) ht rfl (fun _ => z) (fun h => absurd hc h)) (k1 hc)
  · exact qV.ofW (fun _ z => pe_if_ne (tgt := tt.toNat) rfl hn (fun h => absurd h hc) (fun _ => z)) (k2 hc)
theorem qv_if_ne_t {x : Int32} {tt : Int} {tgt : Nat} (hc : ¬ x = 0) (ht : tt.toNat = tgt) (k1 : qW X PR d ret code tgt L st s Q) : qV X PR d ret code b (.ifCond .ne tt :: is) L (.int x :: st) s Q := qv_if_ne ht rfl (fun _ => k1) (fun h => absurd hc h)
theorem qv_if_ne_f {x : Int32} {tt : Int} {nx : Nat} (hc : ¬ (¬ x = 0)) (hn : b + 1 = nx) (k2 : qW X PR d ret code nx L st s Q) : qV X PR d ret code b (.ifCond .ne tt :: is) L (.int x :: st) s Q := qv_if_ne (tgt := tt.toNat) rfl hn (fun h => absurd h hc) (fun _ => k2)
theorem qv_if_neN {x : Int32} {p : Nat} {tt : Int} {tgt nx : Nat} (hx : x = nI p) (hp : p < 2 ^ 31) (ht : tt.toNat = tgt) (hn : b + 1 = nx) (k1 : ¬ p = 0 → qW X PR d ret code tgt L st s Q) (k2 : ¬ (¬ p = 0) → qW X PR d ret code nx L st s Q) : qV X PR d ret code b (.ifCond .ne tt :: is) L (.int x :: st) s Q := by
  subst hx
  exact qv_if_ne ht hn (fun h => k1 ((not_congr (nI_eq hp (show 0 < 2 ^ 31 by decide))).mp h)) (fun h => k2 (fun z => h ((not_congr (nI_eq hp (show 0 < 2 ^ 31 by decide))).mpr z)))
theorem qv_if_neNt {x : Int32} {p : Nat} {tt : Int} {tgt : Nat} (hx : x = nI p) (hp : p < 2 ^ 31) (hc : ¬ p = 0) (ht : tt.toNat = tgt) (k1 : qW X PR d ret code tgt L st s Q) : qV X PR d ret code b (.ifCond .ne tt :: is) L (.int x :: st) s Q := qv_if_neN hx hp ht rfl (fun _ => k1) (fun h => absurd hc h)
theorem qv_if_neNf {x : Int32} {p : Nat} {tt : Int} {nx : Nat} (hx : x = nI p) (hp : p < 2 ^ 31) (hc : ¬ (¬ p = 0)) (hn : b + 1 = nx) (k2 : qW X PR d ret code nx L st s Q) : qV X PR d ret code b (.ifCond .ne tt :: is) L (.int x :: st) s Q := qv_if_neN hx hp (tgt := tt.toNat) rfl hn (fun h => absurd h hc) (fun _ => k2)
theorem qv_icmp_ne {x y : Int32} {tt : Int} {tgt nx : Nat} (ht : tt.toNat = tgt) (hn : b + 1 = nx) (k1 : ¬ x = y → qW X PR d ret code tgt L st s Q) (k2 : ¬ (¬ x = y) → qW X PR d ret code nx L st s Q) : qV X PR d ret code b (.if_icmp .ne tt :: is) L (.int y :: .int x :: st) s Q := by
  by_cases hc : ¬ x = y
  · exact qV.ofW (fun _ z => pe_icmp_ne (nx := b + 1) ht rfl (fun _ => z) (fun h => absurd hc h)) (k1 hc)
  · exact qV.ofW (fun _ z => pe_icmp_ne (tgt := tt.toNat) rfl hn (fun h => absurd h hc) (fun _ => z)) (k2 hc)
theorem qv_icmp_ne_t {x y : Int32} {tt : Int} {tgt : Nat} (hc : ¬ x = y) (ht : tt.toNat = tgt) (k1 : qW X PR d ret code tgt L st s Q) : qV X PR d ret code b (.if_icmp .ne tt :: is) L (.int y :: .int x :: st) s Q := qv_icmp_ne ht rfl (fun _ => k1) (fun h => absurd hc h)
theorem qv_icmp_ne_f {x y : Int32} {tt : Int} {nx : Nat} (hc : ¬ (¬ x = y)) (hn : b + 1 = nx) (k2 : qW X PR d ret code nx L st s Q) : qV X PR d ret code b (.if_icmp .ne tt :: is) L (.int y :: .int x :: st) s Q := qv_icmp_ne (tgt := tt.toNat) rfl hn (fun h => absurd h hc) (fun _ => k2)
theorem qv_icmp_neN {x y : Int32} {p q : Nat} {tt : Int} {tgt nx : Nat} (hx : x = nI p) (hy : y = nI q) (hp : p < 2 ^ 31) (hq : q < 2 ^ 31) (ht : tt.toNat = tgt) (hn : b + 1 = nx) (k1 : ¬ p = q → qW X PR d ret code tgt L st s Q) (k2 : ¬ (¬ p = q) → qW X PR d ret code nx L st s Q) : qV X PR d ret code b (.if_icmp .ne tt :: is) L (.int y :: .int x :: st) s Q := by
  subst hx; subst hy
  exact qv_icmp_ne ht hn (fun h => k1 ((not_congr (nI_eq hp hq)).mp h)) (fun h => k2 (fun z => h ((not_congr (nI_eq hp hq)).mpr z)))
theorem qv_icmp_neNt {x y : Int32} {p q : Nat} {tt : Int} {tgt : Nat} (hx : x = nI p) (hy : y = nI q) (hp : p < 2 ^ 31) (hq : q < 2 ^ 31) (hc : ¬ p = q) (ht : tt.toNat = tgt) (k1 : qW X PR d ret code tgt L st s Q) : qV X PR d ret code b (.if_icmp .ne tt :: is) L (.int y :: .int x :: st) s Q := qv_icmp_neN hx hy hp hq ht rfl (fun _ => k1) (fun h => absurd hc h)
theorem qv_icmp_neNf {x y : Int32} {p q : Nat} {tt : Int} {nx : Nat} (hx : x = nI p) (hy : y = nI q) (hp : p < 2 ^ 31) (hq : q < 2 ^ 31) (hc : ¬ (¬ p = q)) (hn : b + 1 = nx) (k2 : qW X PR d ret code nx L st s Q) : qV X PR d ret code b (.if_icmp .ne tt :: is) L (.int y :: .int x :: st) s Q := qv_icmp_neN hx hy hp hq (tgt := tt.toNat) rfl hn (fun h => absurd h hc) (fun _ => k2)
theorem qv_if_lt {x : Int32} {tt : Int} {tgt nx : Nat} (ht : tt.toNat = tgt) (hn : b + 1 = nx) (k1 : x < 0 → qW X PR d ret code tgt L st s Q) (k2 : ¬ (x < 0) → qW X PR d ret code nx L st s Q) : qV X PR d ret code b (.ifCond .lt tt :: is) L (.int x :: st) s Q := by
  by_cases hc : x < 0
  · exact qV.ofW (fun _ z => pe_if_lt (nx := b + 1) ht rfl (fun _ => z) (fun h => absurd hc h)) (k1 hc)
  · exact qV.ofW (fun _ z => pe_if_lt (tgt := tt.toNat) rfl hn (fun h => absurd h hc) (fun _ => z)) (k2 hc)
theorem qv_if_lt_t {x : Int32} {tt : Int} {tgt : Nat} (hc : x < 0) (ht : tt.toNat = tgt) (k1 : qW X PR d ret code tgt L st s Q) : qV X PR d ret code b (.ifCond .lt tt :: is) L (.int x :: st) s Q := qv_if_lt ht rfl (fun _ => k1) (fun h => absurd hc h)
theorem qv_if_lt_f {x : Int32} {tt : Int} {nx : Nat} (hc : ¬ (x < 0)) (hn : b + 1 = nx) (k2 : qW X PR d ret code nx L st s Q) : qV X PR d ret code b (.ifCond .lt tt :: is) L (.int x :: st) s Q := qv_if_lt (tgt := tt.toNat) rfl hn (fun h => absurd h hc) (fun _ => k2)
theorem qv_if_ltN {x : Int32} {p : Nat} {tt : Int} {tgt nx : Nat} (hx : x = nI p) (hp : p < 2 ^ 31) (ht : tt.toNat = tgt) (hn : b + 1 = nx) (k1 : p < 0 → qW X PR d ret code tgt L st s Q) (k2 : ¬ (p < 0) → qW X PR d ret code nx L st s Q) : qV X PR d ret code b (.ifCond .lt tt :: is) L (.int x :: st) s Q := by
  subst hx
  exact qv_if_lt ht hn (fun h => k1 ((nI_ltI hp (show 0 < 2 ^ 31 by decide)).mp h)) (fun h => k2 (fun z => h ((nI_ltI hp (show 0 < 2 ^ 31 by decide)).mpr z)))
theorem qv_if_ltNt {x : Int32} {p : Nat} {tt : Int} {tgt : Nat} (hx : x = nI p) (hp : p < 2 ^ 31) (hc : p < 0) (ht : tt.toNat = tgt) (k1 : qW X PR d ret code tgt L st s Q) : qV X PR d ret code b (.ifCond .lt tt :: is) L (.int x :: st) s Q := qv_if_ltN hx hp ht rfl (fun _ => k1) (fun h => absurd hc h)
theorem qv_if_ltNf {x : Int32} {p : Nat} {tt : Int} {nx : Nat} (hx : x = nI p) (hp : p < 2 ^ 31) (hc : ¬ (p < 0)) (hn : b + 1 = nx) (k2 : qW X PR d ret code nx L st s Q) : qV X PR d ret code b (.ifCond .lt tt :: is) L (.int x :: st) s Q := qv_if_ltN hx hp (tgt := tt.toNat) rfl hn (fun h => absurd h hc) (fun _ => k2)
theorem qv_icmp_lt {x y : Int32} {tt : Int} {tgt nx : Nat} (ht : tt.toNat = tgt) (hn : b + 1 = nx) (k1 : x < y → qW X PR d ret code tgt L st s Q) (k2 : ¬ (x < y) → qW X PR d ret code nx L st s Q) : qV X PR d ret code b (.if_icmp .lt tt :: is) L (.int y :: .int x :: st) s Q := by
  by_cases hc : x < y
  · exact qV.ofW (fun _ z => pe_icmp_lt (nx := b + 1) ht rfl (fun _ => z) (fun h => absurd hc h)) (k1 hc)
  · exact qV.ofW (fun _ z => pe_icmp_lt (tgt := tt.toNat) rfl hn (fun h => absurd h hc) (fun _ => z)) (k2 hc)
theorem qv_icmp_lt_t {x y : Int32} {tt : Int} {tgt : Nat} (hc : x < y) (ht : tt.toNat = tgt) (k1 : qW X PR d ret code tgt L st s Q) : qV X PR d ret code b (.if_icmp .lt tt :: is) L (.int y :: .int x :: st) s Q := qv_icmp_lt ht rfl (fun _ => k1) (fun h => absurd hc h)
theorem qv_icmp_lt_f {x y : Int32} {tt : Int} {nx : Nat} (hc : ¬ (x < y)) (hn : b + 1 = nx) (k2 : qW X PR d ret code nx L st s Q) : qV X PR d ret code b (.if_icmp .lt tt :: is) L (.int y :: .int x :: st) s Q := qv_icmp_lt (tgt := tt.toNat) rfl hn (fun h => absurd h hc) (fun _ => k2)
theorem qv_icmp_ltN {x y : Int32} {p q : Nat} {tt : Int} {tgt nx : Nat} (hx : x = nI p) (hy : y = nI q) (hp : p < 2 ^ 31) (hq : q < 2 ^ 31) (ht : tt.toNat = tgt) (hn : b + 1 = nx) (k1 : p < q → qW X PR d ret code tgt L st s Q) (k2 : ¬ (p < q) → qW X PR d ret code nx L st s Q) : qV X PR d ret code b (.if_icmp .lt tt :: is) L (.int y :: .int x :: st) s Q := by
  subst hx; subst hy
  exact qv_icmp_lt ht hn (fun h => k1 ((nI_ltI hp hq).mp h)) (fun h => k2 (fun z => h ((nI_ltI hp hq).mpr z)))
theorem qv_icmp_ltNt {x y : Int32} {p q : Nat} {tt : Int} {tgt : Nat} (hx : x = nI p) (hy : y = nI q) (hp : p < 2 ^ 31) (hq : q < 2 ^ 31) (hc : p < q) (ht : tt.toNat = tgt) (k1 : qW X PR d ret code tgt L st s Q) : qV X PR d ret code b (.if_icmp .lt tt :: is) L (.int y :: .int x :: st) s Q := qv_icmp_ltN hx hy hp hq ht rfl (fun _ => k1) (fun h => absurd hc h)
theorem qv_icmp_ltNf {x y : Int32} {p q : Nat} {tt : Int} {nx : Nat} (hx : x = nI p) (hy : y = nI q) (hp : p < 2 ^ 31) (hq : q < 2 ^ 31) (hc : ¬ (p < q)) (hn : b + 1 = nx) (k2 : qW X PR d ret code nx L st s Q) : qV X PR d ret code b (.if_icmp .lt tt :: is) L (.int y :: .int x :: st) s Q := qv_icmp_ltN hx hy hp hq (tgt := tt.toNat) rfl hn (fun h => absurd h hc) (fun _ => k2)
theorem qv_if_ge {x : Int32} {tt : Int} {tgt nx : Nat} (ht : tt.toNat = tgt) (hn : b + 1 = nx) (k1 : 0 ≤ x → qW X PR d ret code tgt L st s Q) (k2 : ¬ (0 ≤ x) → qW X PR d ret code nx L st s Q) : qV X PR d ret code b (.ifCond .ge tt :: is) L (.int x :: st) s Q := by
  by_cases hc : 0 ≤ x
  · exact qV.ofW (fun _ z => pe_if_ge (nx := b + 1) ht rfl (fun _ => z) (fun h => absurd hc h)) (k1 hc)
  · exact qV.ofW (fun _ z => pe_if_ge (tgt := tt.toNat) rfl hn (fun h => absurd h hc) (fun _ => z)) (k2 hc)
theorem qv_if_ge_t {x : Int32} {tt : Int} {tgt : Nat} (hc : 0 ≤ x) (ht : tt.toNat = tgt) (k1 : qW X PR d ret code tgt L st s Q) : qV X PR d ret code b (.ifCond .ge tt :: is) L (.int x :: st) s Q := qv_if_ge ht rfl (fun _ => k1) (fun h => absurd hc h)
theorem qv_if_ge_f {x : Int32} {tt : Int} {nx : Nat} (hc : ¬ (0 ≤ x)) (hn : b + 1 = nx) (k2 : qW X PR d ret code nx L st s Q) : qV X PR d ret code b (.ifCond .ge tt :: is) L (.int x :: st) s Q := qv_if_ge (tgt := tt.toNat) rfl hn (fun h => absurd h hc) (fun _ => k2)
theorem qv_if_geN {x : Int32} {p : Nat} {tt : Int} {tgt nx : Nat} (hx : x = nI p) (hp : p < 2 ^ 31) (ht : tt.toNat = tgt) (hn : b + 1 = nx) (k1 : 0 ≤ p → qW X PR d ret code tgt L st s Q) (k2 : ¬ (0 ≤ p) → qW X PR d ret code nx L st s Q) : qV X PR d ret code b (.ifCond .ge tt :: is) L (.int x :: st) s Q := by
  subst hx
  exact qv_if_ge ht hn (fun h => k1 ((nI_leI (show 0 < 2 ^ 31 by decide) hp).mp h)) (fun h => k2 (fun z => h ((nI_leI (show 0 < 2 ^ 31 by decide) hp).mpr z)))
theorem qv_if_geNt {x : Int32} {p : Nat} {tt : Int} {tgt : Nat} (hx : x = nI p) (hp : p < 2 ^ 31) (hc : 0 ≤ p) (ht : tt.toNat = tgt) (k1 : qW X PR d ret code tgt L st s Q) : qV X PR d ret code b (.ifCond .ge tt :: is) L (.int x :: st) s Q := qv_if_geN hx hp ht rfl (fun _ => k1) (fun h => absurd hc h)
theorem qv_if_geNf {x : Int32} {p : Nat} {tt : Int} {nx : Nat} (hx : x = nI p) (hp : p < 2 ^ 31) (hc : ¬ (0 ≤ p)) (hn : b + 1 = nx) (k2 : qW X PR d ret code nx L st s Q) : qV X PR d ret code b (.ifCond .ge tt :: is) L (.int x :: st) s Q := qv_if_geN hx hp (tgt := tt.toNat) rfl hn (fun h => absurd h hc) (fun _ => k2)
theorem qv_icmp_ge {x y : Int32} {tt : Int} {tgt nx : Nat} (ht : tt.toNat = tgt) (hn : b + 1 = nx) (k1 : y ≤ x → qW X PR d ret code tgt L st s Q) (k2 : ¬ (y ≤ x) → qW X PR d ret code nx L st s Q) : qV X PR d ret code b (.if_icmp .ge tt :: is) L (.int y :: .int x :: st) s Q := by
  by_cases hc : y ≤ x
  · exact qV.ofW (fun _ z => pe_icmp_ge (nx := b + 1) ht rfl (fun _ => z) (fun h => absurd hc h)) (k1 hc)
  · exact qV.ofW (fun _ z => pe_icmp_ge (tgt := tt.toNat) rfl hn (fun h => absurd h hc) (fun _ => z)) (k2 hc)
theorem qv_icmp_ge_t {x y : Int32} {tt : Int} {tgt : Nat} (hc : y ≤ x) (ht : tt.toNat = tgt) (k1 : qW X PR d ret code tgt L st s Q) : qV X PR d ret code b (.if_icmp .ge tt :: is) L (.int y :: .int x :: st) s Q := qv_icmp_ge ht rfl (fun _ => k1) (fun h => absurd hc h)
theorem qv_icmp_ge_f {x y : Int32} {tt : Int} {nx : Nat} (hc : ¬ (y ≤ x)) (hn : b + 1 = nx) (k2 : qW X PR d ret code nx L st s Q) : qV X PR d ret code b (.if_icmp .ge tt :: is) L (.int y :: .int x :: st) s Q := qv_icmp_ge (tgt := tt.toNat) rfl hn (fun h => absurd h hc) (fun _ => k2)
theorem qv_icmp_geN {x y : Int32} {p q : Nat} {tt : Int} {tgt nx : Nat} (hx : x = nI p) (hy : y = nI q) (hp : p < 2 ^ 31) (hq : q < 2 ^ 31) (ht : tt.toNat = tgt) (hn : b + 1 = nx) (k1 : q ≤ p → qW X PR d ret code tgt L st s Q) (k2 : ¬ (q ≤ p) → qW X PR d ret code nx L st s Q) : qV X PR d ret code b (.if_icmp .ge tt :: is) L (.int y :: .int x :: st) s Q := by
  subst hx; subst hy
  exact qv_icmp_ge ht hn (fun h => k1 ((nI_leI hq hp).mp h)) (fun h => k2 (fun z => h ((nI_leI hq hp).mpr z)))
theorem qv_icmp_geNt {x y : Int32} {p q : Nat} {tt : Int} {tgt : Nat} (hx : x = nI p) (hy : y = nI q) (hp : p < 2 ^ 31) (hq : q < 2 ^ 31) (hc : q ≤ p) (ht : tt.toNat = tgt) (k1 : qW X PR d ret code tgt L st s Q) : qV X PR d ret code b (.if_icmp .ge tt :: is) L (.int y :: .int x :: st) s Q := qv_icmp_geN hx hy hp hq ht rfl (fun _ => k1) (fun h => absurd hc h)
theorem qv_icmp_geNf {x y : Int32} {p q : Nat} {tt : Int} {nx : Nat} (hx : x = nI p) (hy : y = nI q) (hp : p < 2 ^ 31) (hq : q < 2 ^ 31) (hc : ¬ (q ≤ p)) (hn : b + 1 = nx) (k2 : qW X PR d ret code nx L st s Q) : qV X PR d ret code b (.if_icmp .ge tt :: is) L (.int y :: .int x :: st) s Q := qv_icmp_geN hx hy hp hq (tgt := tt.toNat) rfl hn (fun h => absurd h hc) (fun _ => k2)
theorem qv_if_gt {x : Int32} {tt : Int} {tgt nx : Nat} (ht : tt.toNat = tgt) (hn : b + 1 = nx) (k1 : 0 < x → qW X PR d ret code tgt L st s Q) (k2 : ¬ (0 < x) → qW X PR d ret code nx L st s Q) : qV X PR d ret code b (.ifCond .gt tt :: is) L (.int x :: st) s Q := by
  by_cases hc : 0 < x
  · exact qV.ofW (fun _ z => pe_if_gt (nx := b + 1) ht rfl (fun _ => z) (fun h => absurd hc h)) (k1 hc)
  · exact qV.ofW (fun _ z => pe_if_gt (tgt := tt.toNat) rfl hn (fun h => absurd h hc) (fun _ => z)) (k2 hc)
theorem qv_if_gt_t {x : Int32} {tt : Int} {tgt : Nat} (hc : 0 < x) (ht : tt.toNat = tgt) (k1 : qW X PR d ret code tgt L st s Q) : qV X PR d ret code b (.ifCond .gt tt :: is) L (.int x :: st) s Q := qv_if_gt ht rfl (fun _ => k1) (fun h => absurd hc h)
theorem qv_if_gt_f {x : Int32} {tt : Int} {nx : Nat} (hc : ¬ (0 < x)) (hn : b + 1 = nx) (k2 : qW X PR d ret code nx L st s Q) : qV X PR d ret code b (.ifCond .gt tt :: is) L (.int x :: st) s Q := qv_if_gt (tgt := tt.toNat) rfl hn (fun h => absurd h hc) (fun _ => k2)
theorem qv_if_gtN {x : Int32} {p : Nat} {tt : Int} {tgt nx : Nat} (hx : x = nI p) (hp : p < 2 ^ 31) (ht : tt.toNat = tgt) (hn : b + 1 = nx) (k1 : 0 < p → qW X PR d ret code tgt L st s Q) (k2 : ¬ (0 < p) → qW X PR d ret code nx L st s Q) : qV X PR d ret code b (.ifCond .gt tt :: is) L (.int x :: st) s Q := by
  subst hx
  exact qv_if_gt ht hn (fun h => k1 ((nI_ltI (show 0 < 2 ^ 31 by decide) hp).mp h)) (fun h => k2 (fun z => h ((nI_ltI (show 0 < 2 ^ 31 by decide) hp).mpr z)))
theorem qv_if_gtNt {x : Int32} {p : Nat} {tt : Int} {tgt : Nat} (hx : x = nI p) (hp : p < 2 ^ 31) (hc : 0 < p) (ht : tt.toNat = tgt) (k1 : qW X PR d ret code tgt L st s Q) : qV X PR d ret code b (.ifCond .gt tt :: is) L (.int x :: st) s Q := qv_if_gtN hx hp ht rfl (fun _ => k1) (fun h => absurd hc h)
theorem qv_if_gtNf {x : Int32} {p : Nat} {tt : Int} {nx : Nat} (hx : x = nI p) (hp : p < 2 ^ 31) (hc : ¬ (0 < p)) (hn : b + 1 = nx) (k2 : qW X PR d ret code nx L st s Q) : qV X PR d ret code b (.ifCond .gt tt :: is) L (.int x :: st) s Q := qv_if_gtN hx hp (tgt := tt.toNat) rfl hn (fun h => absurd h hc) (fun _ => k2)
theorem qv_icmp_gt {x y : Int32} {tt : Int} {tgt nx : Nat} (ht : tt.toNat = tgt) (hn : b + 1 = nx) (k1 : y < x → qW X PR d ret code tgt L st s Q) (k2 : ¬ (y < x) → qW X PR d ret code nx L st s Q) : qV X PR d ret code b (.if_icmp .gt tt :: is) L (.int y :: .int x :: st) s Q := by
  by_cases hc : y < x
  · exact qV.ofW (fun _ z => pe_icmp_gt (nx := b + 1) ht rfl (fun _ => z) (fun h => absurd hc h)) (k1 hc)
  · exact qV.ofW (fun _ z => pe_icmp_gt (tgt := tt.toNat) rfl hn (fun h => absurd h hc) (fun _ => z)) (k2 hc)
theorem qv_icmp_gt_t {x y : Int32} {tt : Int} {tgt : Nat} (hc : y < x) (ht : tt.toNat = tgt) (k1 : qW X PR d ret code tgt L st s Q) : qV X PR d ret code b (.if_icmp .gt tt :: is) L (.int y :: .int x :: st) s Q := qv_icmp_gt ht rfl (fun _ => k1) (fun h => absurd hc h)
theorem qv_icmp_gt_f {x y : Int32} {tt : Int} {nx : Nat} (hc : ¬ (y < x)) (hn : b + 1 = nx) (k2 : qW X PR d ret code nx L st s Q) : qV X PR d ret code b (.if_icmp .gt tt :: is) L (.int y :: .int x :: st) s Q := qv_icmp_gt (tgt := tt.toNat) rfl hn (fun h => absurd h hc) (fun _ => k2)
theorem qv_icmp_gtN {x y : Int32} {p q : Nat} {tt : Int} {tgt nx : Nat} (hx : x = nI p) (hy : y = nI q) (hp : p < 2 ^ 31) (hq : q < 2 ^ 31) (ht : tt.toNat = tgt) (hn : b + 1 = nx) (k1 : q < p → qW X PR d ret code tgt L st s Q) (k2 : ¬ (q < p) → qW X PR d ret code nx L st s Q) : qV X PR d ret code b (.if_icmp .gt tt :: is) L (.int y :: .int x :: st) s Q := by
  subst hx; subst hy
  exact qv_icmp_gt ht hn (fun h => k1 ((nI_ltI hq hp).mp h)) (fun h => k2 (fun z => h ((nI_ltI hq hp).mpr z)))
theorem qv_icmp_gtNt {x y : Int32} {p q : Nat} {tt : Int} {tgt : Nat} (hx : x = nI p) (hy : y = nI q) (hp : p < 2 ^ 31) (hq : q < 2 ^ 31) (hc : q < p) (ht : tt.toNat = tgt) (k1 : qW X PR d ret code tgt L st s Q) : qV X PR d ret code b (.if_icmp .gt tt :: is) L (.int y :: .int x :: st) s Q := qv_icmp_gtN hx hy hp hq ht rfl (fun _ => k1) (fun h => absurd hc h)
theorem qv_icmp_gtNf {x y : Int32} {p q : Nat} {tt : Int} {nx : Nat} (hx : x = nI p) (hy : y = nI q) (hp : p < 2 ^ 31) (hq : q < 2 ^ 31) (hc : ¬ (q < p)) (hn : b + 1 = nx) (k2 : qW X PR d ret code nx L st s Q) : qV X PR d ret code b (.if_icmp .gt tt :: is) L (.int y :: .int x :: st) s Q := qv_icmp_gtN hx hy hp hq (tgt := tt.toNat) rfl hn (fun h => absurd h hc) (fun _ => k2)
theorem qv_if_le {x : Int32} {tt : Int} {tgt nx : Nat} (ht : tt.toNat = tgt) (hn : b + 1 = nx) (k1 : x ≤ 0 → qW X PR d ret code tgt L st s Q) (k2 : ¬ (x ≤ 0) → qW X PR d ret code nx L st s Q) : qV X PR d ret code b (.ifCond .le tt :: is) L (.int x :: st) s Q := by
  by_cases hc : x ≤ 0
  · exact qV.ofW (fun _ z => pe_if_le (nx := b + 1) ht rfl (fun _ => z) (fun h => absurd hc h)) (k1 hc)
  · exact qV.ofW (fun _ z => pe_if_le (tgt := tt.toNat) rfl hn (fun h => absurd h hc) (fun _ => z)) (k2 hc)
theorem qv_if_le_t {x : Int32} {tt : Int} {tgt : Nat} (hc : x ≤ 0) (ht : tt.toNat = tgt) (k1 : qW X PR d ret code tgt L st s Q) : qV X PR d ret code b (.ifCond .le tt :: is) L (.int x :: st) s Q := qv_if_le ht rfl (fun _ => k1) (fun h => absurd hc h)
theorem qv_if_le_f {x : Int32} {tt : Int} {nx : Nat} (hc : ¬ (x ≤ 0)) (hn : b + 1 = nx) (k2 : qW X PR d ret code nx L st s Q) : qV X PR d ret code b (.ifCond .le tt :: is) L (.int x :: st) s Q := qv_if_le (tgt := tt.toNat) rfl hn (fun h => absurd h hc) (fun _ => k2)
theorem qv_if_leN {x : Int32} {p : Nat} {tt : Int} {tgt nx : Nat} (hx : x = nI p) (hp : p < 2 ^ 31) (ht : tt.toNat = tgt) (hn : b + 1 = nx) (k1 : p ≤ 0 → qW X PR d ret code tgt L st s Q) (k2 : ¬ (p ≤ 0) → qW X PR d ret code nx L st s Q) : qV X PR d ret code b (.ifCond .le tt :: is) L (.int x :: st) s Q := by
  subst hx
  exact qv_if_le ht hn (fun h => k1 ((nI_leI hp (show 0 < 2 ^ 31 by decide)).mp h)) (fun h => k2 (fun z => h ((nI_leI hp (show 0 < 2 ^ 31 by decide)).mpr z)))
theorem qv_if_leNt {x : Int32} {p : Nat} {tt : Int} {tgt : Nat} (hx : x = nI p) (hp : p < 2 ^ 31) (hc : p ≤ 0) (ht : tt.toNat = tgt) (k1 : qW X PR d ret code tgt L st s Q) : qV X PR d ret code b (.ifCond .le tt :: is) L (.int x :: st) s Q := qv_if_leN hx hp ht rfl (fun _ => k1) (fun h => absurd hc h)
theorem qv_if_leNf {x : Int32} {p : Nat} {tt : Int} {nx : Nat} (hx : x = nI p) (hp : p < 2 ^ 31) (hc : ¬ (p ≤ 0)) (hn : b + 1 = nx) (k2 : qW X PR d ret code nx L st s Q) : qV X PR d ret code b (.ifCond .le tt :: is) L (.int x :: st) s Q := qv_if_leN hx hp (tgt := tt.toNat) rfl hn (fun h => absurd h hc) (fun _ => k2)
theorem qv_icmp_le {x y : Int32} {tt : Int} {tgt nx : Nat} (ht : tt.toNat = tgt) (hn : b + 1 = nx) (k1 : x ≤ y → qW X PR d ret code tgt L st s Q) (k2 : ¬ (x ≤ y) → qW X PR d ret code nx L st s Q) : qV X PR d ret code b (.if_icmp .le tt :: is) L (.int y :: .int x :: st) s Q := by
  by_cases hc : x ≤ y
  · exact qV.ofW (fun _ z => pe_icmp_le (nx := b + 1) ht rfl (fun _ => z) (fun h => absurd hc h)) (k1 hc)
  · exact qV.ofW (fun _ z => pe_icmp_le (tgt := tt.toNat) rfl hn (fun h => absurd h hc) (fun _ => z)) (k2 hc)
theorem qv_icmp_le_t {x y : Int32} {tt : Int} {tgt : Nat} (hc : x ≤ y) (ht : tt.toNat = tgt) (k1 : qW X PR d ret code tgt L st s Q) : qV X PR d ret code b (.if_icmp .le tt :: is) L (.int y :: .int x :: st) s Q := qv_icmp_le ht rfl (fun _ => k1) (fun h => absurd hc h)
theorem qv_icmp_le_f {x y : Int32} {tt : Int} {nx : Nat} (hc : ¬ (x ≤ y)) (hn : b + 1 = nx) (k2 : qW X PR d ret code nx L st s Q) : qV X PR d ret code b (.if_icmp .le tt :: is) L (.int y :: .int x :: st) s Q := qv_icmp_le (tgt := tt.toNat) rfl hn (fun h => absurd h hc) (fun _ => k2)
theorem qv_icmp_leN {x y : Int32} {p q : Nat} {tt : Int} {tgt nx : Nat} (hx : x = nI p) (hy : y = nI q) (hp : p < 2 ^ 31) (hq : q < 2 ^ 31) (ht : tt.toNat = tgt) (hn : b + 1 = nx) (k1 : p ≤ q → qW X PR d ret code tgt L st s Q) (k2 : ¬ (p ≤ q) → qW X PR d ret code nx L st s Q) : qV X PR d ret code b (.if_icmp .le tt :: is) L (.int y :: .int x :: st) s Q := by
  subst hx; subst hy
  exact qv_icmp_le ht hn (fun h => k1 ((nI_leI hp hq).mp h)) (fun h => k2 (fun z => h ((nI_leI hp hq).mpr z)))
theorem qv_icmp_leNt {x y : Int32} {p q : Nat} {tt : Int} {tgt : Nat} (hx : x = nI p) (hy : y = nI q) (hp : p < 2 ^ 31) (hq : q < 2 ^ 31) (hc : p ≤ q) (ht : tt.toNat = tgt) (k1 : qW X PR d ret code tgt L st s Q) : qV X PR d ret code b (.if_icmp .le tt :: is) L (.int y :: .int x :: st) s Q := qv_icmp_leN hx hy hp hq ht rfl (fun _ => k1) (fun h => absurd hc h)
theorem qv_icmp_leNf {x y : Int32} {p q : Nat} {tt : Int} {nx : Nat} (hx : x = nI p) (hy : y = nI q) (hp : p < 2 ^ 31) (hq : q < 2 ^ 31) (hc : ¬ (p ≤ q)) (hn : b + 1 = nx) (k2 : qW X PR d ret code nx L st s Q) : qV X PR d ret code b (.if_icmp .le tt :: is) L (.int y :: .int x :: st) s Q := qv_icmp_leN hx hy hp hq (tgt := tt.toNat) rfl hn (fun h => absurd h hc) (fun _ => k2)
theorem qv_if_eqB {p : Prop} [hdec : Decidable p] {tt : Int} {tgt nx : Nat} (ht : tt.toNat = tgt) (hn : b + 1 = nx) (k1 : ¬ p → qW X PR d ret code tgt L st s Q) (k2 : p → qW X PR d ret code nx L st s Q) : qV X PR d ret code b (.ifCond .eq tt :: is) L (.int (bI p) :: st) s Q := qv_if_eq ht hn (fun h => k1 (fun z => by rw [bI_t z] at h; exact absurd h (by decide))) (fun h => k2 (bI_ne.mp h))
theorem qv_if_neB {p : Prop} [hdec : Decidable p] {tt : Int} {tgt nx : Nat} (ht : tt.toNat = tgt) (hn : b + 1 = nx) (k1 : p → qW X PR d ret code tgt L st s Q) (k2 : ¬ p → qW X PR d ret code nx L st s Q) : qV X PR d ret code b (.ifCond .ne tt :: is) L (.int (bI p) :: st) s Q := qv_if_ne ht hn (fun h => k1 (bI_ne.mp h)) (fun h => k2 (fun z => h (by rw [bI_t z]; decide)))
end
/-- outside the cells lo .. hi nothing changes -/
def qfr (lo hi : Nat) (s s' : QST) : Prop := (∀ c, ¬ (lo ≤ c ∧ c ≤ hi) → qF s' c = qF s c ∧ qE s' c = qE s c ∧ qL s' c = qL s c ∧ qT s' c = qT s c) ∧ qX s' = qX s ∧ qR s' = qR s ∧ qN s' = qN s
theorem qfr.rf {lo hi : Nat} (s : QST) : qfr lo hi s s := ⟨fun _ _ => ⟨rfl, rfl, rfl, rfl⟩, rfl, rfl, rfl⟩
theorem qfr.trans {lo hi : Nat} {s t u : QST} (h : qfr lo hi s t) (g : qfr lo hi t u) : qfr lo hi s u := ⟨fun c hc => ⟨(g.1 c hc).1.trans (h.1 c hc).1, (g.1 c hc).2.1.trans (h.1 c hc).2.1, (g.1 c hc).2.2.1.trans (h.1 c hc).2.2.1, (g.1 c hc).2.2.2.trans (h.1 c hc).2.2.2⟩, g.2.1.trans h.2.1, g.2.2.1.trans h.2.2.1, g.2.2.2.trans h.2.2.2⟩
theorem qfr.mono {lo hi lo' hi' : Nat} {s t : QST} (h : qfr lo hi s t) (h1 : lo' ≤ lo) (h2 : hi ≤ hi') : qfr lo' hi' s t := ⟨fun c hc => h.1 c (by omega), h.2⟩
theorem qfr.F {lo hi : Nat} {s t : QST} (h : qfr lo hi s t) {c : Nat} (hc : ¬ (lo ≤ c ∧ c ≤ hi)) : qF t c = qF s c := (h.1 c hc).1
theorem qfr.E {lo hi : Nat} {s t : QST} (h : qfr lo hi s t) {c : Nat} (hc : ¬ (lo ≤ c ∧ c ≤ hi)) : qE t c = qE s c := (h.1 c hc).2.1
theorem qfr.L {lo hi : Nat} {s t : QST} (h : qfr lo hi s t) {c : Nat} (hc : ¬ (lo ≤ c ∧ c ≤ hi)) : qL t c = qL s c := (h.1 c hc).2.2.1
theorem qfr.T {lo hi : Nat} {s t : QST} (h : qfr lo hi s t) {c : Nat} (hc : ¬ (lo ≤ c ∧ c ≤ hi)) : qT t c = qT s c := (h.1 c hc).2.2.2
theorem qfr.f {lo hi : Nat} {s t : QST} (h : qfr lo hi s t) {c : Nat} (hc : ¬ (lo ≤ c ∧ c ≤ hi)) {k : Nat} : qF t c k = qF s c k := congrFun (h.F hc) k
theorem qfr.e {lo hi : Nat} {s t : QST} (h : qfr lo hi s t) {c : Nat} (hc : ¬ (lo ≤ c ∧ c ≤ hi)) {k : Nat} : qE t c k = qE s c k := congrFun (h.E hc) k
theorem qfr.X {lo hi : Nat} {s t : QST} (h : qfr lo hi s t) : qX t = qX s := h.2.1
theorem qfr.R {lo hi : Nat} {s t : QST} (h : qfr lo hi s t) : qR t = qR s := h.2.2.1
theorem qfr.N {lo hi : Nat} {s t : QST} (h : qfr lo hi s t) : qN t = qN s := h.2.2.2
theorem qfr.uF {lo hi : Nat} {s t : QST} {c k : Nat} {v : Int32} (h : qfr lo hi s t) (hc : lo ≤ c ∧ c ≤ hi) : qfr lo hi s (uF t c k v) := h.trans ⟨fun c' hc' => ⟨qF_uFc (fun z => hc' (z ▸ hc)), rfl, rfl, rfl⟩, rfl, rfl, rfl⟩
theorem qfr.uE {lo hi : Nat} {s t : QST} {c k : Nat} {v : Int32} (h : qfr lo hi s t) (hc : lo ≤ c ∧ c ≤ hi) : qfr lo hi s (uE t c k v) := h.trans ⟨fun c' hc' => ⟨rfl, qE_uEc (fun z => hc' (z ▸ hc)), rfl, rfl⟩, rfl, rfl, rfl⟩
theorem qfr.uL {lo hi : Nat} {s t : QST} {c k : Nat} {v : Int64} (h : qfr lo hi s t) (hc : lo ≤ c ∧ c ≤ hi) : qfr lo hi s (uL t c k v) := h.trans ⟨fun c' hc' => ⟨rfl, rfl, qL_uLc (fun z => hc' (z ▸ hc)), rfl⟩, rfl, rfl, rfl⟩
theorem qfr.uT {lo hi : Nat} {s t : QST} {c k : Nat} {v : Option Nat} (h : qfr lo hi s t) (hc : lo ≤ c ∧ c ≤ hi) : qfr lo hi s (uT t c k v) := h.trans ⟨fun c' hc' => ⟨rfl, rfl, rfl, qT_uTc (fun z => hc' (z ▸ hc))⟩, rfl, rfl, rfl⟩
theorem qfr.uA {lo hi : Nat} {s t : QST} {c : Nat} {g : Nat → Int32} (h : qfr lo hi s t) (hc : lo ≤ c ∧ c ≤ hi) : qfr lo hi s (uA t c g) := h.trans ⟨fun c' hc' => ⟨rfl, qE_uAc (fun z => hc' (z ▸ hc)), rfl, rfl⟩, rfl, rfl, rfl⟩
set_option maxRecDepth 10000 in
theorem ms_Integer_bitCount : pm_Ms[1]? = some md_Integer_bitCount := rfl
set_option maxRecDepth 10000 in
theorem ms_Arrays_copyOf : pm_Ms[3]? = some md_Arrays_copyOf := rfl
set_option maxRecDepth 10000 in
theorem ms_Chamber_init : pm_Ms[4]? = some md_Chamber_init := rfl
set_option maxRecDepth 10000 in
theorem ms_Chamber_memberAt : pm_Ms[5]? = some md_Chamber_memberAt := rfl
set_option maxRecDepth 10000 in
theorem ms_Chamber_treeAt : pm_Ms[6]? = some md_Chamber_treeAt := rfl
set_option maxRecDepth 10000 in
theorem ms_Chamber_takeOver : pm_Ms[7]? = some md_Chamber_takeOver := rfl
set_option maxRecDepth 10000 in
theorem ms_Chamber_allVoices : pm_Ms[8]? = some md_Chamber_allVoices := rfl
set_option maxRecDepth 10000 in
theorem ms_Chamber_allQuestions : pm_Ms[9]? = some md_Chamber_allQuestions := rfl
set_option maxRecDepth 10000 in
theorem ms_Chamber_allWeight : pm_Ms[10]? = some md_Chamber_allWeight := rfl
set_option maxRecDepth 10000 in
theorem ms_Hall_init : pm_Ms[11]? = some md_Hall_init := rfl
set_option maxRecDepth 10000 in
theorem ms_Hall_seat : pm_Ms[12]? = some md_Hall_seat := rfl
set_option maxRecDepth 10000 in
theorem ms_Hall_settle : pm_Ms[13]? = some md_Hall_settle := rfl
set_option maxRecDepth 10000 in
theorem ms_Hall_settleQuestion : pm_Ms[14]? = some md_Hall_settleQuestion := rfl
set_option maxRecDepth 10000 in
theorem ms_Hall_settleChoice : pm_Ms[23]? = some md_Hall_settleChoice := rfl
set_option maxRecDepth 10000 in
theorem ms_Hall_settleEnd : pm_Ms[24]? = some md_Hall_settleEnd := rfl
set_option maxRecDepth 10000 in
theorem ms_Hall_voteIn : pm_Ms[25]? = some md_Hall_voteIn := rfl
set_option maxRecDepth 10000 in
theorem ms_Hall_makeAll : pm_Ms[26]? = some md_Hall_makeAll := rfl
set_option maxRecDepth 10000 in
theorem ms_Hall_rememberWinners : pm_Ms[27]? = some md_Hall_rememberWinners := rfl
set_option maxRecDepth 10000 in
theorem ms_Hall_firstOtherWinner : pm_Ms[28]? = some md_Hall_firstOtherWinner := rfl
set_option maxRecDepth 10000 in
theorem ms_Hall_killerBits : pm_Ms[29]? = some md_Hall_killerBits := rfl
set_option maxRecDepth 10000 in
theorem ms_Hall_putAgainst : pm_Ms[30]? = some md_Hall_putAgainst := rfl
set_option maxRecDepth 10000 in
theorem ms_Hall_shieldBits : pm_Ms[31]? = some md_Hall_shieldBits := rfl
set_option maxRecDepth 10000 in
theorem ms_Hall_seatOthers : pm_Ms[32]? = some md_Hall_seatOthers := rfl
set_option maxRecDepth 10000 in
theorem ms_Laws_init : pm_Ms[33]? = some md_Laws_init := rfl
set_option maxRecDepth 10000 in
theorem ms_Laws_assemble : pm_Ms[34]? = some md_Laws_assemble := rfl
set_option maxRecDepth 10000 in
theorem ms_Laws_reckonEnds : pm_Ms[35]? = some md_Laws_reckonEnds := rfl
set_option maxRecDepth 10000 in
theorem ms_Laws_like : pm_Ms[36]? = some md_Laws_like := rfl
set_option maxRecDepth 10000 in
theorem ms_Laws_firstBreach : pm_Ms[37]? = some md_Laws_firstBreach := rfl
set_option maxRecDepth 10000 in
theorem ms_Laws_missesBest : pm_Ms[38]? = some md_Laws_missesBest := rfl
set_option maxRecDepth 10000 in
theorem ms_Laws_isBrokenByOne : pm_Ms[39]? = some md_Laws_isBrokenByOne := rfl
set_option maxRecDepth 10000 in
theorem ms_Laws_fallsWhenLifted : pm_Ms[40]? = some md_Laws_fallsWhenLifted := rfl
set_option maxRecDepth 10000 in
theorem ms_Laws_gainsByLying : pm_Ms[41]? = some md_Laws_gainsByLying := rfl
set_option maxRecDepth 10000 in
theorem ms_Member_init : pm_Ms[42]? = some md_Member_init := rfl
set_option maxRecDepth 10000 in
theorem ms_Member_begin : pm_Ms[43]? = some md_Member_begin := rfl
set_option maxRecDepth 10000 in
theorem ms_Member_takeOver : pm_Ms[45]? = some md_Member_takeOver := rfl
set_option maxRecDepth 10000 in
theorem ms_Member_tellWishes : pm_Ms[46]? = some md_Member_tellWishes := rfl
set_option maxRecDepth 10000 in
theorem ms_Orders_init : pm_Ms[49]? = some md_Orders_init := rfl
set_option maxRecDepth 10000 in
theorem ms_Orders_weigh : pm_Ms[50]? = some md_Orders_weigh := rfl
set_option maxRecDepth 10000 in
theorem ms_Orders_lineUp : pm_Ms[51]? = some md_Orders_lineUp := rfl
set_option maxRecDepth 10000 in
theorem ms_Orders_comesOf : pm_Ms[52]? = some md_Orders_comesOf := rfl
set_option maxRecDepth 10000 in
theorem ms_Orders_comesDeep : pm_Ms[53]? = some md_Orders_comesDeep := rfl
set_option maxRecDepth 10000 in
theorem ms_Orders_comesPlain : pm_Ms[54]? = some md_Orders_comesPlain := rfl
set_option maxRecDepth 10000 in
theorem ms_Orders_reachBits : pm_Ms[55]? = some md_Orders_reachBits := rfl
set_option maxRecDepth 10000 in
theorem ms_Orders_peakBits : pm_Ms[56]? = some md_Orders_peakBits := rfl
set_option maxRecDepth 10000 in
theorem ms_Orders_peakOf : pm_Ms[57]? = some md_Orders_peakOf := rfl
set_option maxRecDepth 10000 in
theorem ms_Orders_isBeatenWhole : pm_Ms[58]? = some md_Orders_isBeatenWhole := rfl
set_option maxRecDepth 10000 in
theorem ms_Orders_topBits : pm_Ms[59]? = some md_Orders_topBits := rfl
set_option maxRecDepth 10000 in
theorem ms_Orders_reachedFrom : pm_Ms[60]? = some md_Orders_reachedFrom := rfl
set_option maxRecDepth 10000 in
theorem ms_Orders_firstFor : pm_Ms[61]? = some md_Orders_firstFor := rfl
set_option maxRecDepth 10000 in
theorem ms_Orders_spread : pm_Ms[62]? = some md_Orders_spread := rfl
set_option maxRecDepth 10000 in
theorem ms_Orders_digits : pm_Ms[63]? = some md_Orders_digits := rfl
set_option maxRecDepth 10000 in
theorem ms_Orders_nextRow : pm_Ms[64]? = some md_Orders_nextRow := rfl
set_option maxRecDepth 10000 in
theorem ms_Orders_change : pm_Ms[65]? = some md_Orders_change := rfl
set_option maxRecDepth 10000 in
theorem ms_Orders_beatsAll : pm_Ms[66]? = some md_Orders_beatsAll := rfl
set_option maxRecDepth 10000 in
theorem ms_Orders_uncoveredBits : pm_Ms[67]? = some md_Orders_uncoveredBits := rfl
set_option maxRecDepth 10000 in
theorem ms_Orders_ringAt : pm_Ms[68]? = some md_Orders_ringAt := rfl
set_option maxRecDepth 10000 in
theorem ms_Orders_isRing : pm_Ms[69]? = some md_Orders_isRing := rfl
set_option maxRecDepth 10000 in
theorem ms_Orders_byRanks : pm_Ms[70]? = some md_Orders_byRanks := rfl
set_option maxRecDepth 10000 in
theorem ms_Orders_greatestOf : pm_Ms[71]? = some md_Orders_greatestOf := rfl
set_option maxRecDepth 10000 in
theorem ms_Plots_init : pm_Ms[72]? = some md_Plots_init := rfl
set_option maxRecDepth 10000 in
theorem ms_Plots_plainOnes : pm_Ms[73]? = some md_Plots_plainOnes := rfl
set_option maxRecDepth 10000 in
theorem ms_Plots_fewestOf : pm_Ms[74]? = some md_Plots_fewestOf := rfl
set_option maxRecDepth 10000 in
theorem ms_Plots_makeOfKind : pm_Ms[75]? = some md_Plots_makeOfKind := rfl
set_option maxRecDepth 10000 in
theorem ms_Plots_firstGaining : pm_Ms[76]? = some md_Plots_firstGaining := rfl
set_option maxRecDepth 10000 in
theorem ms_Plots_chanceOf : pm_Ms[77]? = some md_Plots_chanceOf := rfl
set_option maxRecDepth 10000 in
theorem ms_Plots_seatDoubtful : pm_Ms[78]? = some md_Plots_seatDoubtful := rfl
set_option maxRecDepth 10000 in
theorem ms_Plots_suppose : pm_Ms[79]? = some md_Plots_suppose := rfl
set_option maxRecDepth 10000 in
theorem ms_Plots_allOnes : pm_Ms[80]? = some md_Plots_allOnes := rfl
set_option maxRecDepth 10000 in
theorem ms_Plots_findLie : pm_Ms[81]? = some md_Plots_findLie := rfl
set_option maxRecDepth 10000 in
theorem ms_Plots_mattering : pm_Ms[82]? = some md_Plots_mattering := rfl
set_option maxRecDepth 10000 in
theorem ms_Plots_there : pm_Ms[83]? = some md_Plots_there := rfl
set_option maxRecDepth 10000 in
theorem ms_Plots_leastWish : pm_Ms[84]? = some md_Plots_leastWish := rfl
set_option maxRecDepth 10000 in
theorem ms_Plots_lieDigits : pm_Ms[85]? = some md_Plots_lieDigits := rfl
set_option maxRecDepth 10000 in
theorem ms_Plots_beatsIn : pm_Ms[86]? = some md_Plots_beatsIn := rfl
set_option maxRecDepth 10000 in
theorem ms_Reader_init : pm_Ms[87]? = some md_Reader_init := rfl
set_option maxRecDepth 10000 in
theorem ms_Reader_faultOf : pm_Ms[88]? = some md_Reader_faultOf := rfl
set_option maxRecDepth 10000 in
theorem ms_Reader_readPart : pm_Ms[89]? = some md_Reader_readPart := rfl
set_option maxRecDepth 10000 in
theorem ms_Reader_readQuestion : pm_Ms[90]? = some md_Reader_readQuestion := rfl
set_option maxRecDepth 10000 in
theorem ms_Reader_addNode : pm_Ms[91]? = some md_Reader_addNode := rfl
set_option maxRecDepth 10000 in
theorem ms_Reader_readSign : pm_Ms[92]? = some md_Reader_readSign := rfl
set_option maxRecDepth 10000 in
theorem ms_Reader_readChoice : pm_Ms[93]? = some md_Reader_readChoice := rfl
set_option maxRecDepth 10000 in
theorem ms_Reader_readPair : pm_Ms[94]? = some md_Reader_readPair := rfl
set_option maxRecDepth 10000 in
theorem ms_Reader_readEnd : pm_Ms[95]? = some md_Reader_readEnd := rfl
set_option maxRecDepth 10000 in
theorem ms_Reader_treeRead : pm_Ms[96]? = some md_Reader_treeRead := rfl
set_option maxRecDepth 10000 in
theorem ms_Shelf_init : pm_Ms[97]? = some md_Shelf_init := rfl
set_option maxRecDepth 10000 in
theorem ms_Shelf_isA : pm_Ms[98]? = some md_Shelf_isA := rfl
set_option maxRecDepth 10000 in
theorem ms_Shelf_holdsWishes : pm_Ms[99]? = some md_Shelf_holdsWishes := rfl
set_option maxRecDepth 10000 in
theorem ms_Shelf_beginRow : pm_Ms[100]? = some md_Shelf_beginRow := rfl
set_option maxRecDepth 10000 in
theorem ms_Shelf_lowestBits : pm_Ms[101]? = some md_Shelf_lowestBits := rfl
set_option maxRecDepth 10000 in
theorem ms_Shelf_hasPlaces : pm_Ms[102]? = some md_Shelf_hasPlaces := rfl
set_option maxRecDepth 10000 in
theorem ms_Tree_init : pm_Ms[103]? = some md_Tree_init := rfl
set_option maxRecDepth 10000 in
theorem ms_Tree_nodeOf : pm_Ms[104]? = some md_Tree_nodeOf := rfl
set_option maxRecDepth 10000 in
theorem ms_Tree_questionsAhead : pm_Ms[105]? = some md_Tree_questionsAhead := rfl
set_option maxRecDepth 10000 in
theorem ms_Desk_init : pm_Ms[106]? = some md_Desk_init := rfl
set_option maxRecDepth 10000 in
theorem ms_Desk_set : pm_Ms[107]? = some md_Desk_set := rfl
set_option maxRecDepth 10000 in
theorem ms_Desk_member : pm_Ms[109]? = some md_Desk_member := rfl
set_option maxRecDepth 10000 in
theorem ms_Desk_fits : pm_Ms[110]? = some md_Desk_fits := rfl
set_option maxRecDepth 10000 in
theorem ms_Desk_bought : pm_Ms[111]? = some md_Desk_bought := rfl
set_option maxRecDepth 10000 in
theorem ms_Desk_becomes : pm_Ms[113]? = some md_Desk_becomes := rfl
set_option maxRecDepth 10000 in
theorem ms_Desk_wish : pm_Ms[114]? = some md_Desk_wish := rfl
set_option maxRecDepth 10000 in
theorem ms_Desk_changeWish : pm_Ms[115]? = some md_Desk_changeWish := rfl
set_option maxRecDepth 10000 in
theorem ms_Desk_doubted : pm_Ms[116]? = some md_Desk_doubted := rfl
set_option maxRecDepth 10000 in
theorem ms_Desk_sure : pm_Ms[117]? = some md_Desk_sure := rfl
set_option maxRecDepth 10000 in
theorem ms_Desk_about : pm_Ms[118]? = some md_Desk_about := rfl
set_option maxRecDepth 10000 in
theorem ms_Desk_fault : pm_Ms[119]? = some md_Desk_fault := rfl
set_option maxRecDepth 10000 in
theorem ms_Desk_shelfAt : pm_Ms[120]? = some md_Desk_shelfAt := rfl
set_option maxRecDepth 10000 in
theorem ms_Desk_refusalOf : pm_Ms[121]? = some md_Desk_refusalOf := rfl
set_option maxRecDepth 10000 in
theorem ms_Desk_tree : pm_Ms[122]? = some md_Desk_tree := rfl
set_option maxRecDepth 10000 in
theorem ms_Desk_of : pm_Ms[123]? = some md_Desk_of := rfl
set_option maxRecDepth 10000 in
theorem ms_Desk_beat : pm_Ms[124]? = some md_Desk_beat := rfl
set_option maxRecDepth 10000 in
theorem ms_Desk_stands : pm_Ms[125]? = some md_Desk_stands := rfl
set_option maxRecDepth 10000 in
theorem ms_Desk_run : pm_Ms[126]? = some md_Desk_run := rfl
set_option maxRecDepth 10000 in
theorem ms_Desk_ask : pm_Ms[127]? = some md_Desk_ask := rfl
set_option maxRecDepth 10000 in
theorem ms_Desk_wonBy : pm_Ms[128]? = some md_Desk_wonBy := rfl
set_option maxRecDepth 10000 in
theorem ms_Desk_why : pm_Ms[129]? = some md_Desk_why := rfl
set_option maxRecDepth 10000 in
theorem ms_Desk_ifAll : pm_Ms[130]? = some md_Desk_ifAll := rfl
set_option maxRecDepth 10000 in
theorem ms_Desk_comesIfAll : pm_Ms[131]? = some md_Desk_comesIfAll := rfl
set_option maxRecDepth 10000 in
theorem ms_Desk_parts : pm_Ms[132]? = some md_Desk_parts := rfl
set_option maxRecDepth 10000 in
theorem ms_Desk_order : pm_Ms[133]? = some md_Desk_order := rfl
set_option maxRecDepth 10000 in
theorem ms_Desk_weighOrders : pm_Ms[134]? = some md_Desk_weighOrders := rfl
set_option maxRecDepth 10000 in
theorem ms_Desk_reach : pm_Ms[135]? = some md_Desk_reach := rfl
set_option maxRecDepth 10000 in
theorem ms_Desk_first : pm_Ms[136]? = some md_Desk_first := rfl
set_option maxRecDepth 10000 in
theorem ms_Desk_isThere : pm_Ms[137]? = some md_Desk_isThere := rfl
set_option maxRecDepth 10000 in
theorem ms_Desk_best : pm_Ms[138]? = some md_Desk_best := rfl
set_option maxRecDepth 10000 in
theorem ms_Desk_top : pm_Ms[139]? = some md_Desk_top := rfl
set_option maxRecDepth 10000 in
theorem ms_Desk_killers : pm_Ms[140]? = some md_Desk_killers := rfl
set_option maxRecDepth 10000 in
theorem ms_Desk_shields : pm_Ms[141]? = some md_Desk_shields := rfl
set_option maxRecDepth 10000 in
theorem ms_Desk_tell : pm_Ms[142]? = some md_Desk_tell := rfl
set_option maxRecDepth 10000 in
theorem ms_Desk_falseVote : pm_Ms[143]? = some md_Desk_falseVote := rfl
set_option maxRecDepth 10000 in
theorem ms_Desk_chance : pm_Ms[144]? = some md_Desk_chance := rfl
set_option maxRecDepth 10000 in
theorem ms_Desk_boughtOff : pm_Ms[145]? = some md_Desk_boughtOff := rfl
set_option maxRecDepth 10000 in
theorem ms_Desk_bestLie : pm_Ms[146]? = some md_Desk_bestLie := rfl
set_option maxRecDepth 10000 in
theorem ms_Desk_surely : pm_Ms[147]? = some md_Desk_surely := rfl
set_option maxRecDepth 10000 in
theorem ms_Desk_ring : pm_Ms[148]? = some md_Desk_ring := rfl
set_option maxRecDepth 10000 in
theorem ms_Desk_usual : pm_Ms[149]? = some md_Desk_usual := rfl
set_option maxRecDepth 10000 in
theorem ms_Desk_breach : pm_Ms[150]? = some md_Desk_breach := rfl
set_option maxRecDepth 10000 in
theorem ms_Desk_finds : pm_Ms[151]? = some md_Desk_finds := rfl
set_option maxRecDepth 10000 in
theorem ms_Desk_image : pm_Ms[152]? = some md_Desk_image := rfl
set_option maxRecDepth 10000 in
theorem ms_Desk_restore : pm_Ms[153]? = some md_Desk_restore := rfl
set_option maxRecDepth 10000 in
theorem ms_Desk_count : pm_Ms[154]? = some md_Desk_count := rfl
set_option maxRecDepth 10000 in
theorem ms_Desk_keep : pm_Ms[155]? = some md_Desk_keep := rfl
set_option maxRecDepth 10000 in
theorem ms_Desk_row : pm_Ms[156]? = some md_Desk_row := rfl
set_option maxRecDepth 10000 in
theorem ms_Desk_put : pm_Ms[157]? = some md_Desk_put := rfl
set_option maxRecDepth 10000 in
theorem ms_Desk_copy : pm_Ms[158]? = some md_Desk_copy := rfl
set_option maxRecDepth 10000 in
theorem ms_Desk_heft : pm_Ms[159]? = some md_Desk_heft := rfl
set_option maxRecDepth 10000 in
theorem ms_Desk_toss : pm_Ms[160]? = some md_Desk_toss := rfl
set_option maxRecDepth 10000 in
theorem ms_Model_init : pm_Ms[161]? = some md_Model_init := rfl
set_option maxRecDepth 10000 in
theorem ms_Model_thrown : pm_Ms[162]? = some md_Model_thrown := rfl
set_option maxRecDepth 10000 in
theorem ms_Model_member : pm_Ms[165]? = some md_Model_member := rfl
set_option maxRecDepth 10000 in
theorem ms_Model_bought : pm_Ms[167]? = some md_Model_bought := rfl
set_option maxRecDepth 10000 in
theorem ms_Model_becomes : pm_Ms[170]? = some md_Model_becomes := rfl
set_option maxRecDepth 10000 in
theorem ms_Model_wish : pm_Ms[171]? = some md_Model_wish := rfl
set_option maxRecDepth 10000 in
theorem ms_Model_doubted : pm_Ms[173]? = some md_Model_doubted := rfl
set_option maxRecDepth 10000 in
theorem ms_Model_sure : pm_Ms[174]? = some md_Model_sure := rfl
set_option maxRecDepth 10000 in
theorem ms_Model_about : pm_Ms[175]? = some md_Model_about := rfl
set_option maxRecDepth 10000 in
theorem ms_Model_fault : pm_Ms[177]? = some md_Model_fault := rfl
set_option maxRecDepth 10000 in
theorem ms_Model_lacks : pm_Ms[178]? = some md_Model_lacks := rfl
set_option maxRecDepth 10000 in
theorem ms_Model_faultOf : pm_Ms[179]? = some md_Model_faultOf := rfl
set_option maxRecDepth 10000 in
theorem ms_Model_here : pm_Ms[180]? = some md_Model_here := rfl
set_option maxRecDepth 10000 in
theorem ms_Model_begin : pm_Ms[181]? = some md_Model_begin := rfl
set_option maxRecDepth 10000 in
theorem ms_Model_readEnd : pm_Ms[182]? = some md_Model_readEnd := rfl
set_option maxRecDepth 10000 in
theorem ms_Model_take : pm_Ms[183]? = some md_Model_take := rfl
set_option maxRecDepth 10000 in
theorem ms_Model_add : pm_Ms[184]? = some md_Model_add := rfl
set_option maxRecDepth 10000 in
theorem ms_Model_part : pm_Ms[185]? = some md_Model_part := rfl
set_option maxRecDepth 10000 in
theorem ms_Model_tree : pm_Ms[186]? = some md_Model_tree := rfl
set_option maxRecDepth 10000 in
theorem ms_Model_beat : pm_Ms[187]? = some md_Model_beat := rfl
set_option maxRecDepth 10000 in
theorem ms_Model_stands : pm_Ms[194]? = some md_Model_stands := rfl
set_option maxRecDepth 10000 in
theorem ms_Model_of : pm_Ms[197]? = some md_Model_of := rfl
set_option maxRecDepth 10000 in
theorem ms_Model_run : pm_Ms[209]? = some md_Model_run := rfl
set_option maxRecDepth 10000 in
theorem ms_Model_ask : pm_Ms[210]? = some md_Model_ask := rfl
set_option maxRecDepth 10000 in
theorem ms_Model_isQuestion : pm_Ms[211]? = some md_Model_isQuestion := rfl
set_option maxRecDepth 10000 in
theorem ms_Model_nodeOf : pm_Ms[212]? = some md_Model_nodeOf := rfl
set_option maxRecDepth 10000 in
theorem ms_Model_wonBy : pm_Ms[213]? = some md_Model_wonBy := rfl
set_option maxRecDepth 10000 in
theorem ms_Model_why : pm_Ms[214]? = some md_Model_why := rfl
set_option maxRecDepth 10000 in
theorem ms_Model_ifAll : pm_Ms[215]? = some md_Model_ifAll := rfl
set_option maxRecDepth 10000 in
theorem ms_Model_parts : pm_Ms[216]? = some md_Model_parts := rfl
set_option maxRecDepth 10000 in
theorem ms_Model_order : pm_Ms[217]? = some md_Model_order := rfl
set_option maxRecDepth 10000 in
theorem ms_Model_orderEnds : pm_Ms[219]? = some md_Model_orderEnds := rfl
set_option maxRecDepth 10000 in
theorem ms_Model_reach : pm_Ms[220]? = some md_Model_reach := rfl
set_option maxRecDepth 10000 in
theorem ms_Model_allOrders : pm_Ms[221]? = some md_Model_allOrders := rfl
set_option maxRecDepth 10000 in
theorem ms_Model_findOrder : pm_Ms[222]? = some md_Model_findOrder := rfl
set_option maxRecDepth 10000 in
theorem ms_Model_first : pm_Ms[223]? = some md_Model_first := rfl
set_option maxRecDepth 10000 in
theorem ms_Model_best : pm_Ms[224]? = some md_Model_best := rfl
set_option maxRecDepth 10000 in
theorem ms_Model_top : pm_Ms[225]? = some md_Model_top := rfl
set_option maxRecDepth 10000 in
theorem ms_Model_reachedFrom : pm_Ms[226]? = some md_Model_reachedFrom := rfl
set_option maxRecDepth 10000 in
theorem ms_Model_isCovered : pm_Ms[227]? = some md_Model_isCovered := rfl
set_option maxRecDepth 10000 in
theorem ms_Model_killers : pm_Ms[228]? = some md_Model_killers := rfl
set_option maxRecDepth 10000 in
theorem ms_Model_isKiller : pm_Ms[229]? = some md_Model_isKiller := rfl
set_option maxRecDepth 10000 in
theorem ms_Model_against : pm_Ms[230]? = some md_Model_against := rfl
set_option maxRecDepth 10000 in
theorem ms_Model_shields : pm_Ms[231]? = some md_Model_shields := rfl
set_option maxRecDepth 10000 in
theorem ms_Model_tell : pm_Ms[232]? = some md_Model_tell := rfl
set_option maxRecDepth 10000 in
theorem ms_Model_ones : pm_Ms[233]? = some md_Model_ones := rfl
set_option maxRecDepth 10000 in
theorem ms_Model_falseVote : pm_Ms[234]? = some md_Model_falseVote := rfl
set_option maxRecDepth 10000 in
theorem ms_Model_chance : pm_Ms[235]? = some md_Model_chance := rfl
set_option maxRecDepth 10000 in
theorem ms_Model_findUnsure : pm_Ms[236]? = some md_Model_findUnsure := rfl
set_option maxRecDepth 10000 in
theorem ms_Model_boughtOff : pm_Ms[237]? = some md_Model_boughtOff := rfl
set_option maxRecDepth 10000 in
theorem ms_Model_bestLie : pm_Ms[238]? = some md_Model_bestLie := rfl
set_option maxRecDepth 10000 in
theorem ms_Model_surely : pm_Ms[239]? = some md_Model_surely := rfl
set_option maxRecDepth 10000 in
theorem ms_Model_ring : pm_Ms[240]? = some md_Model_ring := rfl
set_option maxRecDepth 10000 in
theorem ms_Model_findRing : pm_Ms[241]? = some md_Model_findRing := rfl
set_option maxRecDepth 10000 in
theorem ms_Model_usual : pm_Ms[242]? = some md_Model_usual := rfl
set_option maxRecDepth 10000 in
theorem ms_Model_breach : pm_Ms[243]? = some md_Model_breach := rfl
set_option maxRecDepth 10000 in
theorem ms_Model_findChamber : pm_Ms[244]? = some md_Model_findChamber := rfl
set_option maxRecDepth 10000 in
theorem ms_Model_breaks : pm_Ms[245]? = some md_Model_breaks := rfl
set_option maxRecDepth 10000 in
theorem ms_Model_lifted : pm_Ms[246]? = some md_Model_lifted := rfl
set_option maxRecDepth 10000 in
theorem ms_Model_finds : pm_Ms[247]? = some md_Model_finds := rfl
set_option maxRecDepth 10000 in
theorem ms_Model_image : pm_Ms[248]? = some md_Model_image := rfl
set_option maxRecDepth 10000 in
theorem ms_Model_restore : pm_Ms[249]? = some md_Model_restore := rfl
set_option maxRecDepth 10000 in
theorem ms_Model_count : pm_Ms[250]? = some md_Model_count := rfl
set_option maxRecDepth 10000 in
theorem ms_Model_keep : pm_Ms[251]? = some md_Model_keep := rfl
set_option maxRecDepth 10000 in
theorem ms_Model_failureOf : pm_Ms[252]? = some md_Model_failureOf := rfl
set_option maxRecDepth 10000 in
theorem ms_Model_row : pm_Ms[253]? = some md_Model_row := rfl
set_option maxRecDepth 10000 in
theorem ms_Model_put : pm_Ms[254]? = some md_Model_put := rfl
set_option maxRecDepth 10000 in
theorem ms_Model_wrongRow : pm_Ms[255]? = some md_Model_wrongRow := rfl
set_option maxRecDepth 10000 in
theorem ms_Model_narrowed : pm_Ms[256]? = some md_Model_narrowed := rfl
set_option maxRecDepth 10000 in
theorem ms_Model_element : pm_Ms[257]? = some md_Model_element := rfl
set_option maxRecDepth 10000 in
theorem ms_Model_copy : pm_Ms[258]? = some md_Model_copy := rfl
set_option maxRecDepth 10000 in
theorem ms_Model_heft : pm_Ms[259]? = some md_Model_heft := rfl
set_option maxRecDepth 10000 in
theorem ms_Model_wrongShelf : pm_Ms[260]? = some md_Model_wrongShelf := rfl
set_option maxRecDepth 10000 in
theorem ms_Model_toss : pm_Ms[261]? = some md_Model_toss := rfl
set_option maxRecDepth 10000 in
theorem ms_Law_element : pm_Ms[262]? = some md_Law_element := rfl
theorem sg_Integer_signum : pm_sig pm_Ms 0 = some (1, 99) := by unfold pm_sig; rw [ms_Integer_signum]; rfl
theorem sg_Integer_bitCount : pm_sig pm_Ms 1 = some (1, 99) := by unfold pm_sig; rw [ms_Integer_bitCount]; rfl
theorem sg_Arrays_fill : pm_sig pm_Ms 2 = some (2, 99) := by unfold pm_sig; rw [ms_Arrays_fill]; rfl
theorem sg_Arrays_copyOf : pm_sig pm_Ms 3 = some (2, 99) := by unfold pm_sig; rw [ms_Arrays_copyOf]; rfl
theorem sg_Chamber_init : pm_sig pm_Ms 4 = some (0, 0) := by unfold pm_sig; rw [ms_Chamber_init]; rfl
theorem sg_Chamber_memberAt : pm_sig pm_Ms 5 = some (1, 0) := by unfold pm_sig; rw [ms_Chamber_memberAt]; rfl
theorem sg_Chamber_treeAt : pm_sig pm_Ms 6 = some (1, 0) := by unfold pm_sig; rw [ms_Chamber_treeAt]; rfl
theorem sg_Chamber_takeOver : pm_sig pm_Ms 7 = some (1, 0) := by unfold pm_sig; rw [ms_Chamber_takeOver]; rfl
theorem sg_Chamber_allVoices : pm_sig pm_Ms 8 = some (0, 0) := by unfold pm_sig; rw [ms_Chamber_allVoices]; rfl
theorem sg_Chamber_allQuestions : pm_sig pm_Ms 9 = some (0, 0) := by unfold pm_sig; rw [ms_Chamber_allQuestions]; rfl
theorem sg_Chamber_allWeight : pm_sig pm_Ms 10 = some (0, 0) := by unfold pm_sig; rw [ms_Chamber_allWeight]; rfl
theorem sg_Hall_init : pm_sig pm_Ms 11 = some (0, 1) := by unfold pm_sig; rw [ms_Hall_init]; rfl
theorem sg_Hall_seat : pm_sig pm_Ms 12 = some (1, 1) := by unfold pm_sig; rw [ms_Hall_seat]; rfl
theorem sg_Hall_settle : pm_sig pm_Ms 13 = some (1, 1) := by unfold pm_sig; rw [ms_Hall_settle]; rfl
theorem sg_Hall_settleQuestion : pm_sig pm_Ms 14 = some (3, 1) := by unfold pm_sig; rw [ms_Hall_settleQuestion]; rfl
theorem sg_Hall_votesFor : pm_sig pm_Ms 15 = some (2, 1) := by unfold pm_sig; rw [ms_Hall_votesFor]; rfl
theorem sg_Hall_drawLines : pm_sig pm_Ms 16 = some (2, 1) := by unfold pm_sig; rw [ms_Hall_drawLines]; rfl
theorem sg_Hall_voteOf : pm_sig pm_Ms 17 = some (3, 1) := by unfold pm_sig; rw [ms_Hall_voteOf]; rfl
theorem sg_Hall_sideOfBought : pm_sig pm_Ms 18 = some (3, 1) := by unfold pm_sig; rw [ms_Hall_sideOfBought]; rfl
theorem sg_Hall_chairsOf : pm_sig pm_Ms 19 = some (2, 1) := by unfold pm_sig; rw [ms_Hall_chairsOf]; rfl
theorem sg_Hall_better : pm_sig pm_Ms 20 = some (2, 1) := by unfold pm_sig; rw [ms_Hall_better]; rfl
theorem sg_Hall_margin : pm_sig pm_Ms 21 = some (2, 1) := by unfold pm_sig; rw [ms_Hall_margin]; rfl
theorem sg_Hall_beats : pm_sig pm_Ms 22 = some (2, 1) := by unfold pm_sig; rw [ms_Hall_beats]; rfl
theorem sg_Hall_settleChoice : pm_sig pm_Ms 23 = some (4, 1) := by unfold pm_sig; rw [ms_Hall_settleChoice]; rfl
theorem sg_Hall_settleEnd : pm_sig pm_Ms 24 = some (2, 1) := by unfold pm_sig; rw [ms_Hall_settleEnd]; rfl
theorem sg_Hall_voteIn : pm_sig pm_Ms 25 = some (3, 1) := by unfold pm_sig; rw [ms_Hall_voteIn]; rfl
theorem sg_Hall_makeAll : pm_sig pm_Ms 26 = some (1, 1) := by unfold pm_sig; rw [ms_Hall_makeAll]; rfl
theorem sg_Hall_rememberWinners : pm_sig pm_Ms 27 = some (1, 1) := by unfold pm_sig; rw [ms_Hall_rememberWinners]; rfl
theorem sg_Hall_firstOtherWinner : pm_sig pm_Ms 28 = some (1, 1) := by unfold pm_sig; rw [ms_Hall_firstOtherWinner]; rfl
theorem sg_Hall_killerBits : pm_sig pm_Ms 29 = some (2, 1) := by unfold pm_sig; rw [ms_Hall_killerBits]; rfl
theorem sg_Hall_putAgainst : pm_sig pm_Ms 30 = some (3, 1) := by unfold pm_sig; rw [ms_Hall_putAgainst]; rfl
theorem sg_Hall_shieldBits : pm_sig pm_Ms 31 = some (3, 1) := by unfold pm_sig; rw [ms_Hall_shieldBits]; rfl
theorem sg_Hall_seatOthers : pm_sig pm_Ms 32 = some (3, 1) := by unfold pm_sig; rw [ms_Hall_seatOthers]; rfl
theorem sg_Laws_init : pm_sig pm_Ms 33 = some (1, 2) := by unfold pm_sig; rw [ms_Laws_init]; rfl
theorem sg_Laws_assemble : pm_sig pm_Ms 34 = some (3, 2) := by unfold pm_sig; rw [ms_Laws_assemble]; rfl
theorem sg_Laws_reckonEnds : pm_sig pm_Ms 35 = some (1, 2) := by unfold pm_sig; rw [ms_Laws_reckonEnds]; rfl
theorem sg_Laws_like : pm_sig pm_Ms 36 = some (1, 2) := by unfold pm_sig; rw [ms_Laws_like]; rfl
theorem sg_Laws_firstBreach : pm_sig pm_Ms 37 = some (1, 2) := by unfold pm_sig; rw [ms_Laws_firstBreach]; rfl
theorem sg_Laws_missesBest : pm_sig pm_Ms 38 = some (1, 2) := by unfold pm_sig; rw [ms_Laws_missesBest]; rfl
theorem sg_Laws_isBrokenByOne : pm_sig pm_Ms 39 = some (2, 2) := by unfold pm_sig; rw [ms_Laws_isBrokenByOne]; rfl
theorem sg_Laws_fallsWhenLifted : pm_sig pm_Ms 40 = some (3, 2) := by unfold pm_sig; rw [ms_Laws_fallsWhenLifted]; rfl
theorem sg_Laws_gainsByLying : pm_sig pm_Ms 41 = some (3, 2) := by unfold pm_sig; rw [ms_Laws_gainsByLying]; rfl
theorem sg_Member_init : pm_sig pm_Ms 42 = some (0, 3) := by unfold pm_sig; rw [ms_Member_init]; rfl
theorem sg_Member_begin : pm_sig pm_Ms 43 = some (4, 3) := by unfold pm_sig; rw [ms_Member_begin]; rfl
theorem sg_Member_weight : pm_sig pm_Ms 44 = some (0, 3) := by unfold pm_sig; rw [ms_Member_weight]; rfl
theorem sg_Member_takeOver : pm_sig pm_Ms 45 = some (1, 3) := by unfold pm_sig; rw [ms_Member_takeOver]; rfl
theorem sg_Member_tellWishes : pm_sig pm_Ms 46 = some (1, 3) := by unfold pm_sig; rw [ms_Member_tellWishes]; rfl
theorem sg_Member_ofParty : pm_sig pm_Ms 47 = some (0, 3) := by unfold pm_sig; rw [ms_Member_ofParty]; rfl
theorem sg_Member_leaning : pm_sig pm_Ms 48 = some (2, 3) := by unfold pm_sig; rw [ms_Member_leaning]; rfl
theorem sg_Orders_init : pm_sig pm_Ms 49 = some (0, 4) := by unfold pm_sig; rw [ms_Orders_init]; rfl
theorem sg_Orders_weigh : pm_sig pm_Ms 50 = some (2, 4) := by unfold pm_sig; rw [ms_Orders_weigh]; rfl
theorem sg_Orders_lineUp : pm_sig pm_Ms 51 = some (2, 4) := by unfold pm_sig; rw [ms_Orders_lineUp]; rfl
theorem sg_Orders_comesOf : pm_sig pm_Ms 52 = some (2, 4) := by unfold pm_sig; rw [ms_Orders_comesOf]; rfl
theorem sg_Orders_comesDeep : pm_sig pm_Ms 53 = some (1, 4) := by unfold pm_sig; rw [ms_Orders_comesDeep]; rfl
theorem sg_Orders_comesPlain : pm_sig pm_Ms 54 = some (1, 4) := by unfold pm_sig; rw [ms_Orders_comesPlain]; rfl
theorem sg_Orders_reachBits : pm_sig pm_Ms 55 = some (1, 4) := by unfold pm_sig; rw [ms_Orders_reachBits]; rfl
theorem sg_Orders_peakBits : pm_sig pm_Ms 56 = some (0, 4) := by unfold pm_sig; rw [ms_Orders_peakBits]; rfl
theorem sg_Orders_peakOf : pm_sig pm_Ms 57 = some (1, 4) := by unfold pm_sig; rw [ms_Orders_peakOf]; rfl
theorem sg_Orders_isBeatenWhole : pm_sig pm_Ms 58 = some (1, 4) := by unfold pm_sig; rw [ms_Orders_isBeatenWhole]; rfl
theorem sg_Orders_topBits : pm_sig pm_Ms 59 = some (0, 4) := by unfold pm_sig; rw [ms_Orders_topBits]; rfl
theorem sg_Orders_reachedFrom : pm_sig pm_Ms 60 = some (1, 4) := by unfold pm_sig; rw [ms_Orders_reachedFrom]; rfl
theorem sg_Orders_firstFor : pm_sig pm_Ms 61 = some (2, 4) := by unfold pm_sig; rw [ms_Orders_firstFor]; rfl
theorem sg_Orders_spread : pm_sig pm_Ms 62 = some (2, 99) := by unfold pm_sig; rw [ms_Orders_spread]; rfl
theorem sg_Orders_digits : pm_sig pm_Ms 63 = some (2, 99) := by unfold pm_sig; rw [ms_Orders_digits]; rfl
theorem sg_Orders_nextRow : pm_sig pm_Ms 64 = some (3, 99) := by unfold pm_sig; rw [ms_Orders_nextRow]; rfl
theorem sg_Orders_change : pm_sig pm_Ms 65 = some (3, 99) := by unfold pm_sig; rw [ms_Orders_change]; rfl
theorem sg_Orders_beatsAll : pm_sig pm_Ms 66 = some (0, 4) := by unfold pm_sig; rw [ms_Orders_beatsAll]; rfl
theorem sg_Orders_uncoveredBits : pm_sig pm_Ms 67 = some (0, 4) := by unfold pm_sig; rw [ms_Orders_uncoveredBits]; rfl
theorem sg_Orders_ringAt : pm_sig pm_Ms 68 = some (1, 4) := by unfold pm_sig; rw [ms_Orders_ringAt]; rfl
theorem sg_Orders_isRing : pm_sig pm_Ms 69 = some (1, 4) := by unfold pm_sig; rw [ms_Orders_isRing]; rfl
theorem sg_Orders_byRanks : pm_sig pm_Ms 70 = some (2, 4) := by unfold pm_sig; rw [ms_Orders_byRanks]; rfl
theorem sg_Orders_greatestOf : pm_sig pm_Ms 71 = some (3, 99) := by unfold pm_sig; rw [ms_Orders_greatestOf]; rfl
theorem sg_Plots_init : pm_sig pm_Ms 72 = some (2, 5) := by unfold pm_sig; rw [ms_Plots_init]; rfl
theorem sg_Plots_plainOnes : pm_sig pm_Ms 73 = some (0, 5) := by unfold pm_sig; rw [ms_Plots_plainOnes]; rfl
theorem sg_Plots_fewestOf : pm_sig pm_Ms 74 = some (4, 5) := by unfold pm_sig; rw [ms_Plots_fewestOf]; rfl
theorem sg_Plots_makeOfKind : pm_sig pm_Ms 75 = some (3, 5) := by unfold pm_sig; rw [ms_Plots_makeOfKind]; rfl
theorem sg_Plots_firstGaining : pm_sig pm_Ms 76 = some (2, 5) := by unfold pm_sig; rw [ms_Plots_firstGaining]; rfl
theorem sg_Plots_chanceOf : pm_sig pm_Ms 77 = some (2, 5) := by unfold pm_sig; rw [ms_Plots_chanceOf]; rfl
theorem sg_Plots_seatDoubtful : pm_sig pm_Ms 78 = some (0, 5) := by unfold pm_sig; rw [ms_Plots_seatDoubtful]; rfl
theorem sg_Plots_suppose : pm_sig pm_Ms 79 = some (2, 5) := by unfold pm_sig; rw [ms_Plots_suppose]; rfl
theorem sg_Plots_allOnes : pm_sig pm_Ms 80 = some (0, 5) := by unfold pm_sig; rw [ms_Plots_allOnes]; rfl
theorem sg_Plots_findLie : pm_sig pm_Ms 81 = some (2, 5) := by unfold pm_sig; rw [ms_Plots_findLie]; rfl
theorem sg_Plots_mattering : pm_sig pm_Ms 82 = some (1, 5) := by unfold pm_sig; rw [ms_Plots_mattering]; rfl
theorem sg_Plots_there : pm_sig pm_Ms 83 = some (0, 5) := by unfold pm_sig; rw [ms_Plots_there]; rfl
theorem sg_Plots_leastWish : pm_sig pm_Ms 84 = some (2, 99) := by unfold pm_sig; rw [ms_Plots_leastWish]; rfl
theorem sg_Plots_lieDigits : pm_sig pm_Ms 85 = some (1, 5) := by unfold pm_sig; rw [ms_Plots_lieDigits]; rfl
theorem sg_Plots_beatsIn : pm_sig pm_Ms 86 = some (3, 5) := by unfold pm_sig; rw [ms_Plots_beatsIn]; rfl
theorem sg_Reader_init : pm_sig pm_Ms 87 = some (0, 6) := by unfold pm_sig; rw [ms_Reader_init]; rfl
theorem sg_Reader_faultOf : pm_sig pm_Ms 88 = some (3, 6) := by unfold pm_sig; rw [ms_Reader_faultOf]; rfl
theorem sg_Reader_readPart : pm_sig pm_Ms 89 = some (1, 6) := by unfold pm_sig; rw [ms_Reader_readPart]; rfl
theorem sg_Reader_readQuestion : pm_sig pm_Ms 90 = some (1, 6) := by unfold pm_sig; rw [ms_Reader_readQuestion]; rfl
theorem sg_Reader_addNode : pm_sig pm_Ms 91 = some (1, 6) := by unfold pm_sig; rw [ms_Reader_addNode]; rfl
theorem sg_Reader_readSign : pm_sig pm_Ms 92 = some (1, 6) := by unfold pm_sig; rw [ms_Reader_readSign]; rfl
theorem sg_Reader_readChoice : pm_sig pm_Ms 93 = some (1, 6) := by unfold pm_sig; rw [ms_Reader_readChoice]; rfl
theorem sg_Reader_readPair : pm_sig pm_Ms 94 = some (1, 6) := by unfold pm_sig; rw [ms_Reader_readPair]; rfl
theorem sg_Reader_readEnd : pm_sig pm_Ms 95 = some (0, 6) := by unfold pm_sig; rw [ms_Reader_readEnd]; rfl
theorem sg_Reader_treeRead : pm_sig pm_Ms 96 = some (0, 6) := by unfold pm_sig; rw [ms_Reader_treeRead]; rfl
theorem sg_Shelf_init : pm_sig pm_Ms 97 = some (0, 7) := by unfold pm_sig; rw [ms_Shelf_init]; rfl
theorem sg_Shelf_isA : pm_sig pm_Ms 98 = some (1, 7) := by unfold pm_sig; rw [ms_Shelf_isA]; rfl
theorem sg_Shelf_holdsWishes : pm_sig pm_Ms 99 = some (0, 7) := by unfold pm_sig; rw [ms_Shelf_holdsWishes]; rfl
theorem sg_Shelf_beginRow : pm_sig pm_Ms 100 = some (2, 7) := by unfold pm_sig; rw [ms_Shelf_beginRow]; rfl
theorem sg_Shelf_lowestBits : pm_sig pm_Ms 101 = some (1, 7) := by unfold pm_sig; rw [ms_Shelf_lowestBits]; rfl
theorem sg_Shelf_hasPlaces : pm_sig pm_Ms 102 = some (2, 7) := by unfold pm_sig; rw [ms_Shelf_hasPlaces]; rfl
theorem sg_Tree_init : pm_sig pm_Ms 103 = some (4, 8) := by unfold pm_sig; rw [ms_Tree_init]; rfl
theorem sg_Tree_nodeOf : pm_sig pm_Ms 104 = some (1, 8) := by unfold pm_sig; rw [ms_Tree_nodeOf]; rfl
theorem sg_Tree_questionsAhead : pm_sig pm_Ms 105 = some (1, 8) := by unfold pm_sig; rw [ms_Tree_questionsAhead]; rfl
theorem sg_Desk_init : pm_sig pm_Ms 106 = some (0, 9) := by unfold pm_sig; rw [ms_Desk_init]; rfl
theorem sg_Desk_set : pm_sig pm_Ms 107 = some (2, 9) := by unfold pm_sig; rw [ms_Desk_set]; rfl
theorem sg_Desk_within : pm_sig pm_Ms 108 = some (3, 99) := by unfold pm_sig; rw [ms_Desk_within]; rfl
theorem sg_Desk_member : pm_sig pm_Ms 109 = some (2, 9) := by unfold pm_sig; rw [ms_Desk_member]; rfl
theorem sg_Desk_fits : pm_sig pm_Ms 110 = some (2, 99) := by unfold pm_sig; rw [ms_Desk_fits]; rfl
theorem sg_Desk_bought : pm_sig pm_Ms 111 = some (2, 9) := by unfold pm_sig; rw [ms_Desk_bought]; rfl
theorem sg_Desk_isEnd : pm_sig pm_Ms 112 = some (1, 99) := by unfold pm_sig; rw [ms_Desk_isEnd]; rfl
theorem sg_Desk_becomes : pm_sig pm_Ms 113 = some (2, 9) := by unfold pm_sig; rw [ms_Desk_becomes]; rfl
theorem sg_Desk_wish : pm_sig pm_Ms 114 = some (3, 9) := by unfold pm_sig; rw [ms_Desk_wish]; rfl
theorem sg_Desk_changeWish : pm_sig pm_Ms 115 = some (4, 9) := by unfold pm_sig; rw [ms_Desk_changeWish]; rfl
theorem sg_Desk_doubted : pm_sig pm_Ms 116 = some (3, 9) := by unfold pm_sig; rw [ms_Desk_doubted]; rfl
theorem sg_Desk_sure : pm_sig pm_Ms 117 = some (2, 9) := by unfold pm_sig; rw [ms_Desk_sure]; rfl
theorem sg_Desk_about : pm_sig pm_Ms 118 = some (2, 9) := by unfold pm_sig; rw [ms_Desk_about]; rfl
theorem sg_Desk_fault : pm_sig pm_Ms 119 = some (1, 9) := by unfold pm_sig; rw [ms_Desk_fault]; rfl
theorem sg_Desk_shelfAt : pm_sig pm_Ms 120 = some (1, 9) := by unfold pm_sig; rw [ms_Desk_shelfAt]; rfl
theorem sg_Desk_refusalOf : pm_sig pm_Ms 121 = some (2, 99) := by unfold pm_sig; rw [ms_Desk_refusalOf]; rfl
theorem sg_Desk_tree : pm_sig pm_Ms 122 = some (1, 9) := by unfold pm_sig; rw [ms_Desk_tree]; rfl
theorem sg_Desk_of : pm_sig pm_Ms 123 = some (2, 9) := by unfold pm_sig; rw [ms_Desk_of]; rfl
theorem sg_Desk_beat : pm_sig pm_Ms 124 = some (2, 9) := by unfold pm_sig; rw [ms_Desk_beat]; rfl
theorem sg_Desk_stands : pm_sig pm_Ms 125 = some (2, 9) := by unfold pm_sig; rw [ms_Desk_stands]; rfl
theorem sg_Desk_run : pm_sig pm_Ms 126 = some (1, 9) := by unfold pm_sig; rw [ms_Desk_run]; rfl
theorem sg_Desk_ask : pm_sig pm_Ms 127 = some (3, 9) := by unfold pm_sig; rw [ms_Desk_ask]; rfl
theorem sg_Desk_wonBy : pm_sig pm_Ms 128 = some (2, 9) := by unfold pm_sig; rw [ms_Desk_wonBy]; rfl
theorem sg_Desk_why : pm_sig pm_Ms 129 = some (3, 9) := by unfold pm_sig; rw [ms_Desk_why]; rfl
theorem sg_Desk_ifAll : pm_sig pm_Ms 130 = some (2, 9) := by unfold pm_sig; rw [ms_Desk_ifAll]; rfl
theorem sg_Desk_comesIfAll : pm_sig pm_Ms 131 = some (2, 9) := by unfold pm_sig; rw [ms_Desk_comesIfAll]; rfl
theorem sg_Desk_parts : pm_sig pm_Ms 132 = some (1, 9) := by unfold pm_sig; rw [ms_Desk_parts]; rfl
theorem sg_Desk_order : pm_sig pm_Ms 133 = some (2, 9) := by unfold pm_sig; rw [ms_Desk_order]; rfl
theorem sg_Desk_weighOrders : pm_sig pm_Ms 134 = some (0, 9) := by unfold pm_sig; rw [ms_Desk_weighOrders]; rfl
theorem sg_Desk_reach : pm_sig pm_Ms 135 = some (1, 9) := by unfold pm_sig; rw [ms_Desk_reach]; rfl
theorem sg_Desk_first : pm_sig pm_Ms 136 = some (2, 9) := by unfold pm_sig; rw [ms_Desk_first]; rfl
theorem sg_Desk_isThere : pm_sig pm_Ms 137 = some (1, 9) := by unfold pm_sig; rw [ms_Desk_isThere]; rfl
theorem sg_Desk_best : pm_sig pm_Ms 138 = some (0, 9) := by unfold pm_sig; rw [ms_Desk_best]; rfl
theorem sg_Desk_top : pm_sig pm_Ms 139 = some (1, 9) := by unfold pm_sig; rw [ms_Desk_top]; rfl
theorem sg_Desk_killers : pm_sig pm_Ms 140 = some (1, 9) := by unfold pm_sig; rw [ms_Desk_killers]; rfl
theorem sg_Desk_shields : pm_sig pm_Ms 141 = some (2, 9) := by unfold pm_sig; rw [ms_Desk_shields]; rfl
theorem sg_Desk_tell : pm_sig pm_Ms 142 = some (2, 9) := by unfold pm_sig; rw [ms_Desk_tell]; rfl
theorem sg_Desk_falseVote : pm_sig pm_Ms 143 = some (2, 9) := by unfold pm_sig; rw [ms_Desk_falseVote]; rfl
theorem sg_Desk_chance : pm_sig pm_Ms 144 = some (2, 9) := by unfold pm_sig; rw [ms_Desk_chance]; rfl
theorem sg_Desk_boughtOff : pm_sig pm_Ms 145 = some (2, 9) := by unfold pm_sig; rw [ms_Desk_boughtOff]; rfl
theorem sg_Desk_bestLie : pm_sig pm_Ms 146 = some (3, 9) := by unfold pm_sig; rw [ms_Desk_bestLie]; rfl
theorem sg_Desk_surely : pm_sig pm_Ms 147 = some (3, 9) := by unfold pm_sig; rw [ms_Desk_surely]; rfl
theorem sg_Desk_ring : pm_sig pm_Ms 148 = some (1, 9) := by unfold pm_sig; rw [ms_Desk_ring]; rfl
theorem sg_Desk_usual : pm_sig pm_Ms 149 = some (1, 9) := by unfold pm_sig; rw [ms_Desk_usual]; rfl
theorem sg_Desk_breach : pm_sig pm_Ms 150 = some (4, 9) := by unfold pm_sig; rw [ms_Desk_breach]; rfl
theorem sg_Desk_finds : pm_sig pm_Ms 151 = some (2, 9) := by unfold pm_sig; rw [ms_Desk_finds]; rfl
theorem sg_Desk_image : pm_sig pm_Ms 152 = some (0, 9) := by unfold pm_sig; rw [ms_Desk_image]; rfl
theorem sg_Desk_restore : pm_sig pm_Ms 153 = some (0, 9) := by unfold pm_sig; rw [ms_Desk_restore]; rfl
theorem sg_Desk_count : pm_sig pm_Ms 154 = some (1, 9) := by unfold pm_sig; rw [ms_Desk_count]; rfl
theorem sg_Desk_keep : pm_sig pm_Ms 155 = some (3, 9) := by unfold pm_sig; rw [ms_Desk_keep]; rfl
theorem sg_Desk_row : pm_sig pm_Ms 156 = some (3, 9) := by unfold pm_sig; rw [ms_Desk_row]; rfl
theorem sg_Desk_put : pm_sig pm_Ms 157 = some (3, 9) := by unfold pm_sig; rw [ms_Desk_put]; rfl
theorem sg_Desk_copy : pm_sig pm_Ms 158 = some (5, 9) := by unfold pm_sig; rw [ms_Desk_copy]; rfl
theorem sg_Desk_heft : pm_sig pm_Ms 159 = some (1, 9) := by unfold pm_sig; rw [ms_Desk_heft]; rfl
theorem sg_Desk_toss : pm_sig pm_Ms 160 = some (1, 9) := by unfold pm_sig; rw [ms_Desk_toss]; rfl
theorem sg_Model_init : pm_sig pm_Ms 161 = some (0, 10) := by unfold pm_sig; rw [ms_Model_init]; rfl
theorem sg_Model_thrown : pm_sig pm_Ms 162 = some (0, 10) := by unfold pm_sig; rw [ms_Model_thrown]; rfl
theorem sg_Model_set : pm_sig pm_Ms 163 = some (2, 10) := by unfold pm_sig; rw [ms_Model_set]; rfl
theorem sg_Model_in : pm_sig pm_Ms 164 = some (3, 99) := by unfold pm_sig; rw [ms_Model_in]; rfl
theorem sg_Model_member : pm_sig pm_Ms 165 = some (2, 10) := by unfold pm_sig; rw [ms_Model_member]; rfl
theorem sg_Model_isNumber : pm_sig pm_Ms 166 = some (2, 99) := by unfold pm_sig; rw [ms_Model_isNumber]; rfl
theorem sg_Model_bought : pm_sig pm_Ms 167 = some (2, 10) := by unfold pm_sig; rw [ms_Model_bought]; rfl
theorem sg_Model_isMember : pm_sig pm_Ms 168 = some (1, 10) := by unfold pm_sig; rw [ms_Model_isMember]; rfl
theorem sg_Model_isEnd : pm_sig pm_Ms 169 = some (1, 99) := by unfold pm_sig; rw [ms_Model_isEnd]; rfl
theorem sg_Model_becomes : pm_sig pm_Ms 170 = some (2, 10) := by unfold pm_sig; rw [ms_Model_becomes]; rfl
theorem sg_Model_wish : pm_sig pm_Ms 171 = some (3, 10) := by unfold pm_sig; rw [ms_Model_wish]; rfl
theorem sg_Model_change : pm_sig pm_Ms 172 = some (2, 10) := by unfold pm_sig; rw [ms_Model_change]; rfl
theorem sg_Model_doubted : pm_sig pm_Ms 173 = some (3, 10) := by unfold pm_sig; rw [ms_Model_doubted]; rfl
theorem sg_Model_sure : pm_sig pm_Ms 174 = some (2, 10) := by unfold pm_sig; rw [ms_Model_sure]; rfl
theorem sg_Model_about : pm_sig pm_Ms 175 = some (2, 10) := by unfold pm_sig; rw [ms_Model_about]; rfl
theorem sg_Model_heftOf : pm_sig pm_Ms 176 = some (1, 10) := by unfold pm_sig; rw [ms_Model_heftOf]; rfl
theorem sg_Model_fault : pm_sig pm_Ms 177 = some (1, 10) := by unfold pm_sig; rw [ms_Model_fault]; rfl
theorem sg_Model_lacks : pm_sig pm_Ms 178 = some (1, 10) := by unfold pm_sig; rw [ms_Model_lacks]; rfl
theorem sg_Model_faultOf : pm_sig pm_Ms 179 = some (1, 10) := by unfold pm_sig; rw [ms_Model_faultOf]; rfl
theorem sg_Model_here : pm_sig pm_Ms 180 = some (0, 10) := by unfold pm_sig; rw [ms_Model_here]; rfl
theorem sg_Model_begin : pm_sig pm_Ms 181 = some (1, 10) := by unfold pm_sig; rw [ms_Model_begin]; rfl
theorem sg_Model_readEnd : pm_sig pm_Ms 182 = some (0, 10) := by unfold pm_sig; rw [ms_Model_readEnd]; rfl
theorem sg_Model_take : pm_sig pm_Ms 183 = some (1, 10) := by unfold pm_sig; rw [ms_Model_take]; rfl
theorem sg_Model_add : pm_sig pm_Ms 184 = some (5, 10) := by unfold pm_sig; rw [ms_Model_add]; rfl
theorem sg_Model_part : pm_sig pm_Ms 185 = some (1, 10) := by unfold pm_sig; rw [ms_Model_part]; rfl
theorem sg_Model_tree : pm_sig pm_Ms 186 = some (1, 10) := by unfold pm_sig; rw [ms_Model_tree]; rfl
theorem sg_Model_beat : pm_sig pm_Ms 187 = some (2, 10) := by unfold pm_sig; rw [ms_Model_beat]; rfl
theorem sg_Model_margin : pm_sig pm_Ms 188 = some (2, 10) := by unfold pm_sig; rw [ms_Model_margin]; rfl
theorem sg_Model_members : pm_sig pm_Ms 189 = some (0, 10) := by unfold pm_sig; rw [ms_Model_members]; rfl
theorem sg_Model_wishOf : pm_sig pm_Ms 190 = some (2, 10) := by unfold pm_sig; rw [ms_Model_wishOf]; rfl
theorem sg_Model_placeIn : pm_sig pm_Ms 191 = some (2, 99) := by unfold pm_sig; rw [ms_Model_placeIn]; rfl
theorem sg_Model_liked : pm_sig pm_Ms 192 = some (2, 99) := by unfold pm_sig; rw [ms_Model_liked]; rfl
theorem sg_Model_voicesOf : pm_sig pm_Ms 193 = some (1, 10) := by unfold pm_sig; rw [ms_Model_voicesOf]; rfl
theorem sg_Model_stands : pm_sig pm_Ms 194 = some (2, 10) := by unfold pm_sig; rw [ms_Model_stands]; rfl
theorem sg_Model_standing : pm_sig pm_Ms 195 = some (2, 10) := by unfold pm_sig; rw [ms_Model_standing]; rfl
theorem sg_Model_beats : pm_sig pm_Ms 196 = some (2, 10) := by unfold pm_sig; rw [ms_Model_beats]; rfl
theorem sg_Model_of : pm_sig pm_Ms 197 = some (2, 10) := by unfold pm_sig; rw [ms_Model_of]; rfl
theorem sg_Model_isTree : pm_sig pm_Ms 198 = some (1, 10) := by unfold pm_sig; rw [ms_Model_isTree]; rfl
theorem sg_Model_endOf : pm_sig pm_Ms 199 = some (1, 10) := by unfold pm_sig; rw [ms_Model_endOf]; rfl
theorem sg_Model_load : pm_sig pm_Ms 200 = some (1, 10) := by unfold pm_sig; rw [ms_Model_load]; rfl
theorem sg_Model_settle : pm_sig pm_Ms 201 = some (0, 10) := by unfold pm_sig; rw [ms_Model_settle]; rfl
theorem sg_Model_settleQuestion : pm_sig pm_Ms 202 = some (1, 10) := by unfold pm_sig; rw [ms_Model_settleQuestion]; rfl
theorem sg_Model_voteOf : pm_sig pm_Ms 203 = some (3, 10) := by unfold pm_sig; rw [ms_Model_voteOf]; rfl
theorem sg_Model_kindOf : pm_sig pm_Ms 204 = some (1, 10) := by unfold pm_sig; rw [ms_Model_kindOf]; rfl
theorem sg_Model_sign : pm_sig pm_Ms 205 = some (3, 10) := by unfold pm_sig; rw [ms_Model_sign]; rfl
theorem sg_Model_partyOf : pm_sig pm_Ms 206 = some (1, 10) := by unfold pm_sig; rw [ms_Model_partyOf]; rfl
theorem sg_Model_partySign : pm_sig pm_Ms 207 = some (3, 10) := by unfold pm_sig; rw [ms_Model_partySign]; rfl
theorem sg_Model_endFor : pm_sig pm_Ms 208 = some (1, 10) := by unfold pm_sig; rw [ms_Model_endFor]; rfl
theorem sg_Model_run : pm_sig pm_Ms 209 = some (1, 10) := by unfold pm_sig; rw [ms_Model_run]; rfl
theorem sg_Model_ask : pm_sig pm_Ms 210 = some (3, 10) := by unfold pm_sig; rw [ms_Model_ask]; rfl
theorem sg_Model_isQuestion : pm_sig pm_Ms 211 = some (2, 10) := by unfold pm_sig; rw [ms_Model_isQuestion]; rfl
theorem sg_Model_nodeOf : pm_sig pm_Ms 212 = some (1, 10) := by unfold pm_sig; rw [ms_Model_nodeOf]; rfl
theorem sg_Model_wonBy : pm_sig pm_Ms 213 = some (2, 10) := by unfold pm_sig; rw [ms_Model_wonBy]; rfl
theorem sg_Model_why : pm_sig pm_Ms 214 = some (3, 10) := by unfold pm_sig; rw [ms_Model_why]; rfl
theorem sg_Model_ifAll : pm_sig pm_Ms 215 = some (2, 10) := by unfold pm_sig; rw [ms_Model_ifAll]; rfl
theorem sg_Model_parts : pm_sig pm_Ms 216 = some (1, 10) := by unfold pm_sig; rw [ms_Model_parts]; rfl
theorem sg_Model_order : pm_sig pm_Ms 217 = some (2, 10) := by unfold pm_sig; rw [ms_Model_order]; rfl
theorem sg_Model_isThere : pm_sig pm_Ms 218 = some (1, 10) := by unfold pm_sig; rw [ms_Model_isThere]; rfl
theorem sg_Model_orderEnds : pm_sig pm_Ms 219 = some (1, 10) := by unfold pm_sig; rw [ms_Model_orderEnds]; rfl
theorem sg_Model_reach : pm_sig pm_Ms 220 = some (1, 10) := by unfold pm_sig; rw [ms_Model_reach]; rfl
theorem sg_Model_allOrders : pm_sig pm_Ms 221 = some (0, 10) := by unfold pm_sig; rw [ms_Model_allOrders]; rfl
theorem sg_Model_findOrder : pm_sig pm_Ms 222 = some (2, 10) := by unfold pm_sig; rw [ms_Model_findOrder]; rfl
theorem sg_Model_first : pm_sig pm_Ms 223 = some (2, 10) := by unfold pm_sig; rw [ms_Model_first]; rfl
theorem sg_Model_best : pm_sig pm_Ms 224 = some (0, 10) := by unfold pm_sig; rw [ms_Model_best]; rfl
theorem sg_Model_top : pm_sig pm_Ms 225 = some (1, 10) := by unfold pm_sig; rw [ms_Model_top]; rfl
theorem sg_Model_reachedFrom : pm_sig pm_Ms 226 = some (1, 10) := by unfold pm_sig; rw [ms_Model_reachedFrom]; rfl
theorem sg_Model_isCovered : pm_sig pm_Ms 227 = some (1, 10) := by unfold pm_sig; rw [ms_Model_isCovered]; rfl
theorem sg_Model_killers : pm_sig pm_Ms 228 = some (1, 10) := by unfold pm_sig; rw [ms_Model_killers]; rfl
theorem sg_Model_isKiller : pm_sig pm_Ms 229 = some (2, 10) := by unfold pm_sig; rw [ms_Model_isKiller]; rfl
theorem sg_Model_against : pm_sig pm_Ms 230 = some (1, 10) := by unfold pm_sig; rw [ms_Model_against]; rfl
theorem sg_Model_shields : pm_sig pm_Ms 231 = some (2, 10) := by unfold pm_sig; rw [ms_Model_shields]; rfl
theorem sg_Model_tell : pm_sig pm_Ms 232 = some (2, 10) := by unfold pm_sig; rw [ms_Model_tell]; rfl
theorem sg_Model_ones : pm_sig pm_Ms 233 = some (1, 99) := by unfold pm_sig; rw [ms_Model_ones]; rfl
theorem sg_Model_falseVote : pm_sig pm_Ms 234 = some (2, 10) := by unfold pm_sig; rw [ms_Model_falseVote]; rfl
theorem sg_Model_chance : pm_sig pm_Ms 235 = some (2, 10) := by unfold pm_sig; rw [ms_Model_chance]; rfl
theorem sg_Model_findUnsure : pm_sig pm_Ms 236 = some (0, 10) := by unfold pm_sig; rw [ms_Model_findUnsure]; rfl
theorem sg_Model_boughtOff : pm_sig pm_Ms 237 = some (2, 10) := by unfold pm_sig; rw [ms_Model_boughtOff]; rfl
theorem sg_Model_bestLie : pm_sig pm_Ms 238 = some (3, 10) := by unfold pm_sig; rw [ms_Model_bestLie]; rfl
theorem sg_Model_surely : pm_sig pm_Ms 239 = some (3, 10) := by unfold pm_sig; rw [ms_Model_surely]; rfl
theorem sg_Model_ring : pm_sig pm_Ms 240 = some (1, 10) := by unfold pm_sig; rw [ms_Model_ring]; rfl
theorem sg_Model_findRing : pm_sig pm_Ms 241 = some (1, 10) := by unfold pm_sig; rw [ms_Model_findRing]; rfl
theorem sg_Model_usual : pm_sig pm_Ms 242 = some (1, 10) := by unfold pm_sig; rw [ms_Model_usual]; rfl
theorem sg_Model_breach : pm_sig pm_Ms 243 = some (4, 10) := by unfold pm_sig; rw [ms_Model_breach]; rfl
theorem sg_Model_findChamber : pm_sig pm_Ms 244 = some (1, 10) := by unfold pm_sig; rw [ms_Model_findChamber]; rfl
theorem sg_Model_breaks : pm_sig pm_Ms 245 = some (2, 10) := by unfold pm_sig; rw [ms_Model_breaks]; rfl
theorem sg_Model_lifted : pm_sig pm_Ms 246 = some (2, 99) := by unfold pm_sig; rw [ms_Model_lifted]; rfl
theorem sg_Model_finds : pm_sig pm_Ms 247 = some (2, 10) := by unfold pm_sig; rw [ms_Model_finds]; rfl
theorem sg_Model_image : pm_sig pm_Ms 248 = some (0, 10) := by unfold pm_sig; rw [ms_Model_image]; rfl
theorem sg_Model_restore : pm_sig pm_Ms 249 = some (0, 10) := by unfold pm_sig; rw [ms_Model_restore]; rfl
theorem sg_Model_count : pm_sig pm_Ms 250 = some (1, 10) := by unfold pm_sig; rw [ms_Model_count]; rfl
theorem sg_Model_keep : pm_sig pm_Ms 251 = some (3, 10) := by unfold pm_sig; rw [ms_Model_keep]; rfl
theorem sg_Model_failureOf : pm_sig pm_Ms 252 = some (1, 10) := by unfold pm_sig; rw [ms_Model_failureOf]; rfl
theorem sg_Model_row : pm_sig pm_Ms 253 = some (3, 10) := by unfold pm_sig; rw [ms_Model_row]; rfl
theorem sg_Model_put : pm_sig pm_Ms 254 = some (3, 10) := by unfold pm_sig; rw [ms_Model_put]; rfl
theorem sg_Model_wrongRow : pm_sig pm_Ms 255 = some (1, 10) := by unfold pm_sig; rw [ms_Model_wrongRow]; rfl
theorem sg_Model_narrowed : pm_sig pm_Ms 256 = some (2, 99) := by unfold pm_sig; rw [ms_Model_narrowed]; rfl
theorem sg_Model_element : pm_sig pm_Ms 257 = some (2, 10) := by unfold pm_sig; rw [ms_Model_element]; rfl
theorem sg_Model_copy : pm_sig pm_Ms 258 = some (5, 10) := by unfold pm_sig; rw [ms_Model_copy]; rfl
theorem sg_Model_heft : pm_sig pm_Ms 259 = some (1, 10) := by unfold pm_sig; rw [ms_Model_heft]; rfl
theorem sg_Model_wrongShelf : pm_sig pm_Ms 260 = some (1, 10) := by unfold pm_sig; rw [ms_Model_wrongShelf]; rfl
theorem sg_Model_toss : pm_sig pm_Ms 261 = some (1, 10) := by unfold pm_sig; rw [ms_Model_toss]; rfl
theorem sg_Law_element : pm_sig pm_Ms 262 = some (4, 99) := by unfold pm_sig; rw [ms_Law_element]; rfl
