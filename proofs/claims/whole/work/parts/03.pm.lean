/-! THE PURE MACHINE: the part of the bytecode that class, law and reference use, over a heap of its own. An op is an instruction with its operands resolved: getfield (64 * class + field), invoke.. (the method's place in the list), new (the class), jumps to blocks, every int constant an iconst, every long constant a goto_w, Object.<init> a monitorenter, System.arraycopy a swap, Math.max a dup_x1, Math.min a dup_x2. -/
abbrev pm_S : Type := List va_E × Nat
abbrev pm_F : Type := List (Option Value) × List Value × pm_S
abbrev pm_X : Type := Nat → Option (Nat × (Nat → Int32))
abbrev pm_T : Type := Option Value × pm_S
/-- a method: its name, bytes, locals, return; how many arguments beside 'this', its class; its blocks -/
abbrev pm_M : Type := (MethodName × ByteArray × Nat × Option FieldType) × (Nat × Nat) × List (Nat × List Instr)
/-- the class list, and a class's field types -/
def pm_cl : List vw_C := [(RX0, TX0, 6), (RX1, TX1, 12), (RX2, TX2, 4), (RX3, TX3, 8), (RX4, TX4, 5), (RX5, TX5, 8), (RX6, TX6, 8), (RX7, TX7, 5), (RX8, TX8, 7), (RX9, TX9, 9), (RX10, TX10, 57), ("java/lang/IllegalArgumentException", TX0, 0), ("java/lang/IllegalStateException", TX0, 0), ("java/lang/UnsupportedOperationException", TX0, 0)]
def pm_ty (ci : Nat) : Nat → FieldType := match ci with
  | 0 => tyX0 | 1 => tyX1 | 2 => tyX2 | 3 => tyX3 | 4 => tyX4 | 5 => tyX5 | 6 => tyX6 | 7 => tyX7 | 8 => tyX8 | 9 => tyX9 | _ => tyX10
def pm_N (ci : Nat) : Nat := match ci with
  | 0 => 6 | 1 => 12 | 2 => 4 | 3 => 8 | 4 => 5 | 5 => 8 | 6 => 8 | 7 => 5 | 8 => 7 | 9 => 9 | _ => 57
/-- an object as new -/
def pm_blank (ci : Nat) : List Value := (List.range (pm_N ci)).map (fun k => defaultValue (pm_ty ci k))
/-- array kinds: 0 int, 1 long, 2 Member, 3 Tree, 4 Shelf: the class of what they hold -/
def pm_ac (t : Nat) : Nat := match t with
  | 2 => 3 | 3 => 8 | _ => 7
def pm_get (X : pm_X) (h : List va_E) (a : Nat) : Option va_E := if a < 8 then (X a).map (fun p => .inl (0, p.1, .inl p.2)) else h[a - 8]?
def pm_ld (L : List (Option Value)) (i : Nat) : Option Value := match L[i]? with
  | some v => v
  | none => none
def pm_clr (L : List (Option Value)) (i : Nat) : List (Option Value) := match i with
  | 0 => L
  | j + 1 => match L[j]? with
    | some (some v) => if v.category = 2 then L.set j none else L
    | _ => L
def pm_st (L : List (Option Value)) (i : Nat) (v : Value) : Option (List (Option Value)) :=
  if v.category = 2 then (if i + 1 < L.length then some (((pm_clr L i).set (i + 1) none).set i (some v)) else none)
  else (if i < L.length then some ((pm_clr L i).set i (some v)) else none)
def pm_fit (ty : FieldType) (v : Value) : Bool := match ty with
  | .int => match v with | .int _ => true | _ => false
  | .long => match v with | .long _ => true | _ => false
  | .boolean => match v with | .int x => x == 0 || x == 1 | _ => false
  | .object _ => match v with | .ref _ => true | .null => true | _ => false
  | .array _ => match v with | .ref _ => true | .null => true | _ => false
  | _ => false
/-- two ints off the stack -/
def pm_b2 (g : Int32 → Int32 → Option Value) (f : pm_F) : Option pm_F := match f.2.1 with
  | .int y :: .int x :: st => match g x y with | some v => some (f.1, v :: st, f.2.2) | none => none
  | _ => none
def pm_b1 (g : Int32 → Value) (f : pm_F) : Option pm_F := match f.2.1 with
  | .int x :: st => some (f.1, g x :: st, f.2.2)
  | _ => none
def pm_l2 (g : Int64 → Int64 → Value) (f : pm_F) : Option pm_F := match f.2.1 with
  | .long y :: .long x :: st => some (f.1, g x y :: st, f.2.2)
  | _ => none
def pm_push (v : Value) (f : pm_F) : Option pm_F := some (f.1, v :: f.2.1, f.2.2)
def pm_isI (v : Value) : Bool := match v with | .int _ => true | _ => false
def pm_isL (v : Value) : Bool := match v with | .long _ => true | _ => false
def pm_isA (v : Value) : Bool := match v with | .ref _ => true | .null => true | _ => false
def pm_load (k : Value → Bool) (i : Nat) (f : pm_F) : Option pm_F := match pm_ld f.1 i with
  | some v => if k v = true then some (f.1, v :: f.2.1, f.2.2) else none
  | none => none
def pm_store (k : Value → Bool) (i : Nat) (f : pm_F) : Option pm_F := match f.2.1 with
  | v :: st => if k v = true then (match pm_st f.1 i v with | some L => some (L, st, f.2.2) | none => none) else none
  | [] => none
def pm_iinc (i : Nat) (n : Int) (f : pm_F) : Option pm_F := match pm_ld f.1 i with
  | some (.int x) => match pm_st f.1 i (.int (x + Int32.ofInt n)) with | some L => some (L, f.2.1, f.2.2) | none => none
  | _ => none
def pm_iald (X : pm_X) (f : pm_F) : Option pm_F := match f.2.1 with
  | .int i :: .ref a :: st => match pm_get X f.2.2.1 a with
    | some (.inl (0, n, .inl g)) => if i < 0 ∨ n ≤ i.toNatClampNeg then none else some (f.1, .int (g i.toNatClampNeg) :: st, f.2.2)
    | _ => none
  | _ => none
def pm_lald (X : pm_X) (f : pm_F) : Option pm_F := match f.2.1 with
  | .int i :: .ref a :: st => match pm_get X f.2.2.1 a with
    | some (.inl (1, n, .inr (.inl g))) => if i < 0 ∨ n ≤ i.toNatClampNeg then none else some (f.1, .long (g i.toNatClampNeg) :: st, f.2.2)
    | _ => none
  | _ => none
def pm_aald (X : pm_X) (f : pm_F) : Option pm_F := match f.2.1 with
  | .int i :: .ref a :: st => match pm_get X f.2.2.1 a with
    | some (.inl (t, n, .inr (.inr (.inr (.inr g))))) => if 2 ≤ t ∧ t < 5 then (if i < 0 ∨ n ≤ i.toNatClampNeg then none else some (f.1, va_rf (g i.toNatClampNeg) :: st, f.2.2)) else none
    | _ => none
  | _ => none
def pm_iast (X : pm_X) (f : pm_F) : Option pm_F := match f.2.1 with
  | .int x :: .int i :: .ref a :: st => if a < 8 then none else match pm_get X f.2.2.1 a with
    | some (.inl (0, n, .inl g)) => if i < 0 ∨ n ≤ i.toNatClampNeg then none else some (f.1, st, (f.2.2.1.set (a - 8) (.inl (0, n, .inl (upd g i.toNatClampNeg x))), f.2.2.2))
    | _ => none
  | _ => none
def pm_last (X : pm_X) (f : pm_F) : Option pm_F := match f.2.1 with
  | .long x :: .int i :: .ref a :: st => if a < 8 then none else match pm_get X f.2.2.1 a with
    | some (.inl (1, n, .inr (.inl g))) => if i < 0 ∨ n ≤ i.toNatClampNeg then none else some (f.1, st, (f.2.2.1.set (a - 8) (.inl (1, n, .inr (.inl (vp_updL g i.toNatClampNeg x)))), f.2.2.2))
    | _ => none
  | _ => none
def pm_aast (X : pm_X) (f : pm_F) : Option pm_F := match f.2.1 with
  | .ref v :: .int i :: .ref a :: st => if a < 8 ∨ v < 8 then none else match pm_get X f.2.2.1 a, pm_get X f.2.2.1 v with
    | some (.inl (t, n, .inr (.inr (.inr (.inr g))))), some (.inr (ci, _)) => if 2 ≤ t ∧ t < 5 ∧ ci = pm_ac t then (if i < 0 ∨ n ≤ i.toNatClampNeg then none else some (f.1, st, (f.2.2.1.set (a - 8) (.inl (t, n, .inr (.inr (.inr (.inr (va_up g i.toNatClampNeg (some v))))))), f.2.2.2))) else none
    | _, _ => none
  | _ => none
def pm_alen (X : pm_X) (f : pm_F) : Option pm_F := match f.2.1 with
  | .ref a :: st => match pm_get X f.2.2.1 a with
    | some (.inl (0, n, _)) => some (f.1, .int (Int32.ofNat n) :: st, f.2.2)
    | _ => none
  | _ => none
def pm_getf (X : pm_X) (n : Nat) (f : pm_F) : Option pm_F := match f.2.1 with
  | .ref a :: st => if a < 8 then none else match pm_get X f.2.2.1 a with
    | some (.inr (ci, fs)) => if ci = n / 64 then (match fs[n % 64]? with | some v => some (f.1, v :: st, f.2.2) | none => none) else none
    | _ => none
  | _ => none
def pm_putf (X : pm_X) (n : Nat) (f : pm_F) : Option pm_F := match f.2.1 with
  | v :: .ref a :: st => if a < 8 then none else match pm_get X f.2.2.1 a with
    | some (.inr (ci, fs)) => if ci = n / 64 ∧ n % 64 < fs.length ∧ pm_fit (pm_ty (n / 64) (n % 64)) v = true then some (f.1, st, (f.2.2.1.set (a - 8) (.inr (ci, fs.set (n % 64) v)), f.2.2.2)) else none
    | _ => none
  | _ => none
def pm_new (ci : Nat) (f : pm_F) : Option pm_F := if ci < 11 then some (f.1, .ref (8 + f.2.2.1.length) :: f.2.1, (f.2.2.1 ++ [.inr (ci, pm_blank ci)], f.2.2.2 + pm_N ci)) else none
def pm_newa (t : Nat) (k : Nat → vp_A) (f : pm_F) : Option pm_F := match f.2.1 with
  | .int n :: st => if n < 0 ∨ 100000 ≤ n.toNatClampNeg then none else some (f.1, .ref (8 + f.2.2.1.length) :: st, (f.2.2.1 ++ [.inl (t, k n.toNatClampNeg)], f.2.2.2 + n.toNatClampNeg))
  | _ => none
def pm_copy (X : pm_X) (f : pm_F) : Option pm_F := match f.2.1 with
  | .int n :: .int dp :: .ref a :: .int sp :: .ref a0 :: st => if a < 8 ∨ 8 < (st.map fun v => v.category).sum then none else match pm_get X f.2.2.1 a0, pm_get X f.2.2.1 a with
    | some (.inl (0, n0, .inl g0)), some (.inl (0, n1, .inl g1)) => if sp < 0 ∨ dp < 0 ∨ n < 0 ∨ n0 < sp.toNatClampNeg + n.toNatClampNeg ∨ n1 < dp.toNatClampNeg + n.toNatClampNeg then none else some (f.1, st, (f.2.2.1.set (a - 8) (.inl (0, n1, .inl (va_cpy g0 g1 sp.toNatClampNeg dp.toNatClampNeg n.toNatClampNeg))), f.2.2.2))
    | _, _ => none
  | _ => none
def pm_dup (f : pm_F) : Option pm_F := match f.2.1 with
  | v :: st => if v.category = 1 then some (f.1, v :: v :: st, f.2.2) else none
  | [] => none
def pm_dup2 (f : pm_F) : Option pm_F := match f.2.1 with
  | v :: w :: st => if v.category = 1 ∧ w.category = 1 then some (f.1, v :: w :: v :: w :: st, f.2.2) else none
  | _ => none
def pm_pop (f : pm_F) : Option pm_F := match f.2.1 with
  | v :: st => if v.category = 1 then some (f.1, st, f.2.2) else none
  | [] => none
def pm_pop2 (f : pm_F) : Option pm_F := match f.2.1 with
  | v :: st => if v.category = 2 then some (f.1, st, f.2.2) else none
  | [] => none
def pm_oini (f : pm_F) : Option pm_F := match f.2.1 with
  | .ref _ :: st => if (st.map fun v => v.category).sum ≤ 8 then some (f.1, st, f.2.2) else none
  | _ => none
def pm_mm (g : Int32 → Int32 → Int32) (f : pm_F) : Option pm_F := match f.2.1 with
  | .int y :: .int x :: st => if (st.map fun v => v.category).sum ≤ 8 then some (f.1, .int (g x y) :: st, f.2.2) else none
  | _ => none
/-- an op that goes on behind itself -/
def pm_op (X : pm_X) (i : Instr) (f : pm_F) : Option pm_F := match i with
  | .iconst n => pm_push (.int (Int32.ofInt n)) f
  | .goto_w n => pm_push (.long (Int64.ofInt n)) f
  | .aconst_null => pm_push .null f
  | .iload i => pm_load pm_isI i f
  | .lload i => pm_load pm_isL i f
  | .aload i => pm_load pm_isA i f
  | .istore i => pm_store pm_isI i f
  | .lstore i => pm_store pm_isL i f
  | .astore i => pm_store pm_isA i f
  | .iinc i n => pm_iinc i n f
  | .iadd => pm_b2 (fun x y => some (.int (x + y))) f
  | .isub => pm_b2 (fun x y => some (.int (x - y))) f
  | .imul => pm_b2 (fun x y => some (.int (x * y))) f
  | .idiv => pm_b2 (fun x y => if y = 0 then none else some (.int (x / y))) f
  | .irem => pm_b2 (fun x y => if y = 0 then none else some (.int (x - x / y * y))) f
  | .iand => pm_b2 (fun x y => some (.int (x &&& y))) f
  | .ior => pm_b2 (fun x y => some (.int (x ||| y))) f
  | .ixor => pm_b2 (fun x y => some (.int (x ^^^ y))) f
  | .ishl => pm_b2 (fun x y => some (.int (x <<< (y &&& 31)))) f
  | .ishr => pm_b2 (fun x y => some (.int (x >>> (y &&& 31)))) f
  | .iushr => pm_b2 (fun x y => some (.int ((x.toUInt32 >>> (y.toUInt32 &&& Int32.toUInt32 31)).toInt32))) f
  | .ineg => pm_b1 (fun x => .int (-x)) f
  | .i2l => pm_b1 (fun x => .long x.toInt64) f
  | .i2b => pm_b1 (fun x => .int x.toInt8.toInt32) f
  | .i2s => pm_b1 (fun x => .int x.toInt16.toInt32) f
  | .l2i => match f.2.1 with | .long x :: st => some (f.1, .int x.toInt32 :: st, f.2.2) | _ => none
  | .ladd => pm_l2 (fun x y => .long (x + y)) f
  | .lmul => pm_l2 (fun x y => .long (x * y)) f
  | .lcmp => pm_l2 (fun x y => .int (lg_cmp x y)) f
  | .iaload => pm_iald X f
  | .laload => pm_lald X f
  | .aaload => pm_aald X f
  | .iastore => pm_iast X f
  | .lastore => pm_last X f
  | .aastore => pm_aast X f
  | .arraylength => pm_alen X f
  | .getfield n => pm_getf X n f
  | .putfield n => pm_putf X n f
  | .getstatic n => pm_push (.ref n) f
  | .new ci => pm_new ci f
  | .newarray .int => pm_newa 0 (fun n => (n, .inl (fun _ => 0))) f
  | .newarray .long => pm_newa 1 (fun n => (n, .inr (.inl (fun _ => 0)))) f
  | .anewarray t => if 2 ≤ t ∧ t < 5 then pm_newa t (fun n => (n, .inr (.inr (.inr (.inr (fun _ => none)))))) f else none
  | .swap => pm_copy X f
  | .monitorenter => pm_oini f
  | .dup => pm_dup f
  | .dup2 => pm_dup2 f
  | .pop => pm_pop f
  | .pop2 => pm_pop2 f
  | .dup_x1 => pm_mm (fun x y => if x < y then y else x) f
  | .dup_x2 => pm_mm (fun x y => if y < x then y else x) f
  | _ => none
def pm_cond (c : ClassFile.Cond) (x y : Int32) : Bool := match c with
  | .eq => decide (x = y)
  | .ne => decide (¬ x = y)
  | .lt => decide (x < y)
  | .ge => decide (y ≤ x)
  | .gt => decide (y < x)
  | .le => decide (x ≤ y)
abbrev pm_O : Type := (Nat × pm_F) ⊕ pm_T
/-- a call: n arguments off the stack, and 'this' -/
def pm_inv (n : Nat) (this : Bool) (st : List Value) : Option (List Value × List Value) :=
  let k := if this = true then n + 1 else n
  if k ≤ st.length ∧ ((st.drop k).map fun v => v.category).sum ≤ 8 then some ((st.take k).reverse, st.drop k) else none
/-- the receiver is an object of that class -/
def pm_rcv (X : pm_X) (h : List va_E) (ci : Nat) (as : List Value) : Bool := match as with
  | .ref a :: _ => if a < 8 then false else match pm_get X h a with | some (.inr (c, _)) => c == ci | _ => false
  | _ => false
def pm_isR (as : List Value) : Bool := match as with
  | .ref _ :: _ => true
  | _ => false
def pm_sig (M : List pm_M) (mid : Nat) : Option (Nat × Nat) := match M[mid]? with
  | some m => some m.2.1
  | none => none
def pm_ret (ret : Option FieldType) (v : Value) : Bool := match ret with
  | some ty => pm_fit ty v
  | none => false
def pm_tab (d lo hi : Int) (offs : Array Int) (x : Int32) : Option Int := if x.toInt < lo ∨ hi < x.toInt then some d else offs[(x.toInt - lo).toNat]?
/-- the ops of block b: where it goes on, or what it returns -/
def pm_ex (X : pm_X) (M : List pm_M) (cf : Nat → List Value → pm_S → Option pm_T) (ret : Option FieldType) (b : Nat) : List Instr → pm_F → Option pm_O
  | [], f => some (.inl (b + 1, f))
  | i :: is, f => match i with
    | .goto t => some (.inl (t.toNat, f))
    | .ifCond c t => match f.2.1 with
      | .int x :: st => if pm_cond c x 0 = true then some (.inl (t.toNat, (f.1, st, f.2.2))) else some (.inl (b + 1, (f.1, st, f.2.2)))
      | _ => none
    | .if_icmp c t => match f.2.1 with
      | .int y :: .int x :: st => if pm_cond c x y = true then some (.inl (t.toNat, (f.1, st, f.2.2))) else some (.inl (b + 1, (f.1, st, f.2.2)))
      | _ => none
    | .ifnull t => match f.2.1 with
      | .null :: st => some (.inl (t.toNat, (f.1, st, f.2.2)))
      | .ref _ :: st => some (.inl (b + 1, (f.1, st, f.2.2)))
      | _ => none
    | .ifnonnull t => match f.2.1 with
      | .null :: st => some (.inl (b + 1, (f.1, st, f.2.2)))
      | .ref _ :: st => some (.inl (t.toNat, (f.1, st, f.2.2)))
      | _ => none
    | .tableswitch d lo hi offs => match f.2.1 with
      | .int x :: st => match pm_tab d lo hi offs x with | some t => some (.inl (t.toNat, (f.1, st, f.2.2))) | none => none
      | _ => none
    | .lookupswitch d ps => match f.2.1 with
      | .int x :: st => some (.inl ((Op.lookupswitch.offset ps.toList d x.toInt).toNat, (f.1, st, f.2.2)))
      | _ => none
    | .ireturn => match f.2.1 with
      | [.int x] => if pm_ret ret (.int x) = true then some (.inr (some (.int x), f.2.2)) else none
      | _ => none
    | .lreturn => match f.2.1 with
      | [.long x] => if ret = some .long then some (.inr (some (.long x), f.2.2)) else none
      | _ => none
    | .areturn => match f.2.1 with
      | [v] => if pm_isA v = true ∧ pm_ret ret v = true then some (.inr (some v, f.2.2)) else none
      | _ => none
    | .return_ => match f.2.1 with
      | [] => if ret = none then some (.inr (none, f.2.2)) else none
      | _ => none
    | .invokestatic mid => match pm_sig M mid with
      | some q => match pm_inv q.1 false f.2.1 with
        | some r => match cf mid r.1 f.2.2 with
          | some t => pm_ex X M cf ret b is (f.1, t.1.toList ++ r.2, t.2)
          | none => none
        | none => none
      | none => none
    | .invokevirtual mid => match pm_sig M mid with
      | some q => match pm_inv q.1 true f.2.1 with
        | some r => if pm_rcv X f.2.2.1 q.2 r.1 = true then (match cf mid r.1 f.2.2 with
          | some t => pm_ex X M cf ret b is (f.1, t.1.toList ++ r.2, t.2)
          | none => none) else none
        | none => none
      | none => none
    | .invokespecial mid => match pm_sig M mid with
      | some q => match pm_inv q.1 true f.2.1 with
        | some r => if pm_isR r.1 = true then (match cf mid r.1 f.2.2 with
          | some t => pm_ex X M cf ret b is (f.1, t.1.toList ++ r.2, t.2)
          | none => none) else none
        | none => none
      | none => none
    | i => match pm_op X i f with
      | some f' => pm_ex X M cf ret b is f'
      | none => none
def pm_go (X : pm_X) (M : List pm_M) (cf : Nat → List Value → pm_S → Option pm_T) (ret : Option FieldType) (code : List (Nat × List Instr)) : Nat → Nat → pm_F → Option pm_T
  | 0, _, _ => none
  | F + 1, b, f => match code[b]? with
    | none => none
    | some q => match pm_ex X M cf ret b q.2 f with
      | none => none
      | some (.inl g) => pm_go X M cf ret code F g.1 g.2
      | some (.inr t) => some t
def pm_ent (n : Nat) (as : List Value) : Option (List (Option Value)) :=
  let l := as.flatMap (fun v => if v.category = 2 then [some v, none] else [some v])
  if l.length ≤ n then some (l ++ List.replicate (n - l.length) none) else none
def pm_fuel : Nat := 1000000000
abbrev pm_P : Type := Nat → Option (List Value → pm_S → Option pm_T)
/-- method mid with these arguments, calls d deep at most -/
def pm_call (X : pm_X) (M : List pm_M) (PR : pm_P) : Nat → Nat → List Value → pm_S → Option pm_T
  | 0, _, _, _ => none
  | d + 1, mid, as, S => match PR mid with
    | some g => if 16 ≤ d then g as S else none
    | none => match M[mid]? with
      | none => none
      | some m => match pm_ent m.1.2.2.1 as with
        | none => none
        | some L => pm_go X M (pm_call X M PR d) m.1.2.2.2 m.2.2 pm_fuel 0 (L, [], S)
