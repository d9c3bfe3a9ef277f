/-! printed by wip/whole/mkhp.py: the heap as a function of numbers: qF ints of objects, qE of int arrays, qL of long arrays, qT the told TREES, qX the reader's text, qR what lies behind, qN slots -/
abbrev QST : Type := (Nat → Nat → Int32) × (Nat → Nat → Int32) × (Nat → Nat → Int64) × (Nat → Nat → Option Nat) × Value × List va_E × Nat
def qF (s : QST) : Nat → Nat → Int32 := s.1
def qE (s : QST) : Nat → Nat → Int32 := s.2.1
def qL (s : QST) : Nat → Nat → Int64 := s.2.2.1
def qT (s : QST) : Nat → Nat → Option Nat := s.2.2.2.1
def qX (s : QST) : Value := s.2.2.2.2.1
def qR (s : QST) : List va_E := s.2.2.2.2.2.1
def qN (s : QST) : Nat := s.2.2.2.2.2.2
def qu2 {α : Type} (f : Nat → Nat → α) (c k : Nat) (v : α) : Nat → Nat → α := fun c' k' => if c' = c ∧ k' = k then v else f c' k'
def qua {α : Type} (f : Nat → Nat → α) (c : Nat) (g : Nat → α) : Nat → Nat → α := fun c' => if c' = c then g else f c'
def uF (s : QST) (c k : Nat) (v : Int32) : QST := (qu2 (qF s) c k v, qE s, qL s, qT s, qX s, qR s, qN s)
def uE (s : QST) (c k : Nat) (v : Int32) : QST := (qF s, qu2 (qE s) c k v, qL s, qT s, qX s, qR s, qN s)
def uL (s : QST) (c k : Nat) (v : Int64) : QST := (qF s, qE s, qu2 (qL s) c k v, qT s, qX s, qR s, qN s)
def uT (s : QST) (c k : Nat) (v : Option Nat) : QST := (qF s, qE s, qL s, qu2 (qT s) c k v, qX s, qR s, qN s)
def uX (s : QST) (v : Value) : QST := (qF s, qE s, qL s, qT s, v, qR s, qN s)
def uA (s : QST) (c : Nat) (g : Nat → Int32) : QST := (qF s, qua (qE s) c g, qL s, qT s, qX s, qR s, qN s)
def uR (s : QST) (e : List va_E) (n : Nat) : QST := (qF s, qE s, qL s, qT s, qX s, e, n)
theorem qE_uF {s : QST} {c k : Nat} {v : Int32} : qE (uF s c k v) = qE s := rfl
theorem qL_uF {s : QST} {c k : Nat} {v : Int32} : qL (uF s c k v) = qL s := rfl
theorem qT_uF {s : QST} {c k : Nat} {v : Int32} : qT (uF s c k v) = qT s := rfl
theorem qX_uF {s : QST} {c k : Nat} {v : Int32} : qX (uF s c k v) = qX s := rfl
theorem qR_uF {s : QST} {c k : Nat} {v : Int32} : qR (uF s c k v) = qR s := rfl
theorem qN_uF {s : QST} {c k : Nat} {v : Int32} : qN (uF s c k v) = qN s := rfl
theorem qF_uE {s : QST} {c k : Nat} {v : Int32} : qF (uE s c k v) = qF s := rfl
theorem qL_uE {s : QST} {c k : Nat} {v : Int32} : qL (uE s c k v) = qL s := rfl
theorem qT_uE {s : QST} {c k : Nat} {v : Int32} : qT (uE s c k v) = qT s := rfl
theorem qX_uE {s : QST} {c k : Nat} {v : Int32} : qX (uE s c k v) = qX s := rfl
theorem qR_uE {s : QST} {c k : Nat} {v : Int32} : qR (uE s c k v) = qR s := rfl
theorem qN_uE {s : QST} {c k : Nat} {v : Int32} : qN (uE s c k v) = qN s := rfl
theorem qF_uL {s : QST} {c k : Nat} {v : Int64} : qF (uL s c k v) = qF s := rfl
theorem qE_uL {s : QST} {c k : Nat} {v : Int64} : qE (uL s c k v) = qE s := rfl
theorem qT_uL {s : QST} {c k : Nat} {v : Int64} : qT (uL s c k v) = qT s := rfl
theorem qX_uL {s : QST} {c k : Nat} {v : Int64} : qX (uL s c k v) = qX s := rfl
theorem qR_uL {s : QST} {c k : Nat} {v : Int64} : qR (uL s c k v) = qR s := rfl
theorem qN_uL {s : QST} {c k : Nat} {v : Int64} : qN (uL s c k v) = qN s := rfl
theorem qF_uT {s : QST} {c k : Nat} {v : Option Nat} : qF (uT s c k v) = qF s := rfl
theorem qE_uT {s : QST} {c k : Nat} {v : Option Nat} : qE (uT s c k v) = qE s := rfl
theorem qL_uT {s : QST} {c k : Nat} {v : Option Nat} : qL (uT s c k v) = qL s := rfl
theorem qX_uT {s : QST} {c k : Nat} {v : Option Nat} : qX (uT s c k v) = qX s := rfl
theorem qR_uT {s : QST} {c k : Nat} {v : Option Nat} : qR (uT s c k v) = qR s := rfl
theorem qN_uT {s : QST} {c k : Nat} {v : Option Nat} : qN (uT s c k v) = qN s := rfl
theorem qF_uX {s : QST} {v : Value} : qF (uX s v) = qF s := rfl
theorem qE_uX {s : QST} {v : Value} : qE (uX s v) = qE s := rfl
theorem qL_uX {s : QST} {v : Value} : qL (uX s v) = qL s := rfl
theorem qT_uX {s : QST} {v : Value} : qT (uX s v) = qT s := rfl
theorem qR_uX {s : QST} {v : Value} : qR (uX s v) = qR s := rfl
theorem qN_uX {s : QST} {v : Value} : qN (uX s v) = qN s := rfl
theorem qF_uA {s : QST} {c : Nat} {g : Nat → Int32} : qF (uA s c g) = qF s := rfl
theorem qL_uA {s : QST} {c : Nat} {g : Nat → Int32} : qL (uA s c g) = qL s := rfl
theorem qT_uA {s : QST} {c : Nat} {g : Nat → Int32} : qT (uA s c g) = qT s := rfl
theorem qX_uA {s : QST} {c : Nat} {g : Nat → Int32} : qX (uA s c g) = qX s := rfl
theorem qR_uA {s : QST} {c : Nat} {g : Nat → Int32} : qR (uA s c g) = qR s := rfl
theorem qN_uA {s : QST} {c : Nat} {g : Nat → Int32} : qN (uA s c g) = qN s := rfl
theorem qF_uR {s : QST} {e : List va_E} {n : Nat} : qF (uR s e n) = qF s := rfl
theorem qE_uR {s : QST} {e : List va_E} {n : Nat} : qE (uR s e n) = qE s := rfl
theorem qL_uR {s : QST} {e : List va_E} {n : Nat} : qL (uR s e n) = qL s := rfl
theorem qT_uR {s : QST} {e : List va_E} {n : Nat} : qT (uR s e n) = qT s := rfl
theorem qX_uR {s : QST} {e : List va_E} {n : Nat} : qX (uR s e n) = qX s := rfl
theorem qF_uF {s : QST} {c k c' k' : Nat} {v : Int32} : qF (uF s c k v) c' k' = if c' = c ∧ k' = k then v else qF s c' k' := rfl
theorem qF_uFs {s : QST} {c k : Nat} {v : Int32} : qF (uF s c k v) c k = v := if_pos ⟨rfl, rfl⟩
theorem qF_uFc {s : QST} {c k c' : Nat} {v : Int32} (h : c' ≠ c) : qF (uF s c k v) c' = qF s c' := funext fun _ => if_neg fun z => h z.1
theorem qF_uFk {s : QST} {c k k' : Nat} {v : Int32} (h : k' ≠ k) : qF (uF s c k v) c k' = qF s c k' := if_neg fun z => h z.2
theorem qE_uE {s : QST} {c k c' k' : Nat} {v : Int32} : qE (uE s c k v) c' k' = if c' = c ∧ k' = k then v else qE s c' k' := rfl
theorem qE_uEs {s : QST} {c k : Nat} {v : Int32} : qE (uE s c k v) c k = v := if_pos ⟨rfl, rfl⟩
theorem qE_uEc {s : QST} {c k c' : Nat} {v : Int32} (h : c' ≠ c) : qE (uE s c k v) c' = qE s c' := funext fun _ => if_neg fun z => h z.1
theorem qE_uEk {s : QST} {c k k' : Nat} {v : Int32} (h : k' ≠ k) : qE (uE s c k v) c k' = qE s c k' := if_neg fun z => h z.2
theorem qL_uL {s : QST} {c k c' k' : Nat} {v : Int64} : qL (uL s c k v) c' k' = if c' = c ∧ k' = k then v else qL s c' k' := rfl
theorem qL_uLs {s : QST} {c k : Nat} {v : Int64} : qL (uL s c k v) c k = v := if_pos ⟨rfl, rfl⟩
theorem qL_uLc {s : QST} {c k c' : Nat} {v : Int64} (h : c' ≠ c) : qL (uL s c k v) c' = qL s c' := funext fun _ => if_neg fun z => h z.1
theorem qL_uLk {s : QST} {c k k' : Nat} {v : Int64} (h : k' ≠ k) : qL (uL s c k v) c k' = qL s c k' := if_neg fun z => h z.2
theorem qT_uT {s : QST} {c k c' k' : Nat} {v : Option Nat} : qT (uT s c k v) c' k' = if c' = c ∧ k' = k then v else qT s c' k' := rfl
theorem qT_uTs {s : QST} {c k : Nat} {v : Option Nat} : qT (uT s c k v) c k = v := if_pos ⟨rfl, rfl⟩
theorem qT_uTc {s : QST} {c k c' : Nat} {v : Option Nat} (h : c' ≠ c) : qT (uT s c k v) c' = qT s c' := funext fun _ => if_neg fun z => h z.1
theorem qT_uTk {s : QST} {c k k' : Nat} {v : Option Nat} (h : k' ≠ k) : qT (uT s c k v) c k' = qT s c k' := if_neg fun z => h z.2
theorem qE_uA {s : QST} {c c' : Nat} {g : Nat → Int32} : qE (uA s c g) c' = if c' = c then g else qE s c' := rfl
theorem qE_uAs {s : QST} {c : Nat} {g : Nat → Int32} : qE (uA s c g) c = g := if_pos rfl
theorem qE_uAc {s : QST} {c c' : Nat} {g : Nat → Int32} (h : c' ≠ c) : qE (uA s c g) c' = qE s c' := if_neg h
theorem qX_uX {s : QST} {v : Value} : qX (uX s v) = v := rfl
theorem qR_uR {s : QST} {e : List va_E} {n : Nat} : qR (uR s e n) = e := rfl
theorem qN_uR {s : QST} {e : List va_E} {n : Nat} : qN (uR s e n) = n := rfl
theorem uE_uA {s : QST} {c k : Nat} {v : Int32} : uE s c k v = uA s c (upd (qE s c) k v) := by
  unfold uE uA
  have : qu2 (qE s) c k v = qua (qE s) c (upd (qE s c) k v) := by
    funext c' k'
    unfold qu2 qua upd
    by_cases h : c' = c
    · subst h; by_cases h2 : k' = k <;> simp [h2]
    · simp [h]
  rw [this]
/-- what lies at an address: 0 ints (how many), 1 an object (class; 0 an int, 1 the text, else a ref), 2 refs (type; how many, the first, step), 3 TREES told, 4 longs -/
def qLayL : List (Nat × Nat × List Nat) := [(1, 9, [9, 39, 0, 69, 70, 74, 111, 115, 121]), (1, 0, [0, 0, 0, 0, 10, 11]), (2, 2, [9, 12, 3]), (3, 12, []), (1, 3, [0, 0, 0, 0, 0, 0, 13, 14]), (0, 7, []), (0, 7, []), (1, 3, [0, 0, 0, 0, 0, 0, 16, 17]), (0, 7, []), (0, 7, []), (1, 3, [0, 0, 0, 0, 0, 0, 19, 20]), (0, 7, []), (0, 7, []), (1, 3, [0, 0, 0, 0, 0, 0, 22, 23]), (0, 7, []), (0, 7, []), (1, 3, [0, 0, 0, 0, 0, 0, 25, 26]), (0, 7, []), (0, 7, []), (1, 3, [0, 0, 0, 0, 0, 0, 28, 29]), (0, 7, []), (0, 7, []), (1, 3, [0, 0, 0, 0, 0, 0, 31, 32]), (0, 7, []), (0, 7, []), (1, 3, [0, 0, 0, 0, 0, 0, 34, 35]), (0, 7, []), (0, 7, []), (1, 3, [0, 0, 0, 0, 0, 0, 37, 38]), (0, 7, []), (0, 7, []), (1, 0, [0, 0, 0, 0, 40, 41]), (2, 2, [9, 42, 3]), (3, 12, []), (1, 3, [0, 0, 0, 0, 0, 0, 43, 44]), (0, 7, []), (0, 7, []), (1, 3, [0, 0, 0, 0, 0, 0, 46, 47]), (0, 7, []), (0, 7, []), (1, 3, [0, 0, 0, 0, 0, 0, 49, 50]), (0, 7, []), (0, 7, []), (1, 3, [0, 0, 0, 0, 0, 0, 52, 53]), (0, 7, []), (0, 7, []), (1, 3, [0, 0, 0, 0, 0, 0, 55, 56]), (0, 7, []), (0, 7, []), (1, 3, [0, 0, 0, 0, 0, 0, 58, 59]), (0, 7, []), (0, 7, []), (1, 3, [0, 0, 0, 0, 0, 0, 61, 62]), (0, 7, []), (0, 7, []), (1, 3, [0, 0, 0, 0, 0, 0, 64, 65]), (0, 7, []), (0, 7, []), (1, 3, [0, 0, 0, 0, 0, 0, 67, 68]), (0, 7, []), (0, 7, []), (2, 4, [8, 123, 5]), (1, 6, [1, 0, 0, 0, 0, 71, 72, 73]), (0, 120, []), (0, 120, []), (0, 120, []), (1, 1, [0, 0, 0, 75, 76, 77, 78, 79, 80, 81, 82, 83]), (2, 2, [9, 84, 3]), (0, 64, []), (0, 64, []), (0, 64, []), (0, 64, []), (0, 64, []), (0, 384, []), (0, 3, []), (0, 64, []), (1, 3, [0, 0, 0, 0, 0, 0, 85, 86]), (0, 7, []), (0, 7, []), (1, 3, [0, 0, 0, 0, 0, 0, 88, 89]), (0, 7, []), (0, 7, []), (1, 3, [0, 0, 0, 0, 0, 0, 91, 92]), (0, 7, []), (0, 7, []), (1, 3, [0, 0, 0, 0, 0, 0, 94, 95]), (0, 7, []), (0, 7, []), (1, 3, [0, 0, 0, 0, 0, 0, 97, 98]), (0, 7, []), (0, 7, []), (1, 3, [0, 0, 0, 0, 0, 0, 100, 101]), (0, 7, []), (0, 7, []), (1, 3, [0, 0, 0, 0, 0, 0, 103, 104]), (0, 7, []), (0, 7, []), (1, 3, [0, 0, 0, 0, 0, 0, 106, 107]), (0, 7, []), (0, 7, []), (1, 3, [0, 0, 0, 0, 0, 0, 109, 110]), (0, 7, []), (0, 7, []), (1, 4, [0, 0, 112, 113, 114]), (0, 7, []), (0, 7, []), (0, 128, []), (1, 5, [9, 74, 116, 117, 118, 119, 120, 0]), (0, 6, []), (0, 7, []), (0, 7, []), (0, 7, []), (0, 7, []), (1, 2, [74, 0, 0, 122]), (0, 216, []), (1, 7, [0, 0, 0, 124, 127]), (1, 3, [0, 0, 0, 0, 0, 0, 125, 126]), (0, 7, []), (0, 7, []), (0, 120, []), (1, 7, [0, 0, 0, 129, 132]), (1, 3, [0, 0, 0, 0, 0, 0, 130, 131]), (0, 7, []), (0, 7, []), (0, 120, []), (1, 7, [0, 0, 0, 134, 137]), (1, 3, [0, 0, 0, 0, 0, 0, 135, 136]), (0, 7, []), (0, 7, []), (0, 120, []), (1, 7, [0, 0, 0, 139, 142]), (1, 3, [0, 0, 0, 0, 0, 0, 140, 141]), (0, 7, []), (0, 7, []), (0, 120, []), (1, 7, [0, 0, 0, 144, 147]), (1, 3, [0, 0, 0, 0, 0, 0, 145, 146]), (0, 7, []), (0, 7, []), (0, 120, []), (1, 7, [0, 0, 0, 149, 152]), (1, 3, [0, 0, 0, 0, 0, 0, 150, 151]), (0, 7, []), (0, 7, []), (0, 120, []), (1, 7, [0, 0, 0, 154, 157]), (1, 3, [0, 0, 0, 0, 0, 0, 155, 156]), (0, 7, []), (0, 7, []), (0, 120, []), (1, 7, [0, 0, 0, 159, 162]), (1, 3, [0, 0, 0, 0, 0, 0, 160, 161]), (0, 7, []), (0, 7, []), (0, 120, []), (1, 10, [0, 164, 165, 0, 166, 167, 168, 169, 170, 171, 172, 0, 0, 0, 0, 0, 0, 173, 174, 175, 176, 177, 178, 179, 180, 181, 0, 0, 0, 0, 0, 0, 182, 0, 0, 0, 183, 184, 185, 186, 187, 188, 189, 190, 191, 0, 192, 193, 194, 195, 196, 197, 198, 199, 200, 201, 202]), (0, 200, []), (0, 200, []), (0, 12, []), (0, 12, []), (0, 1200, []), (0, 1200, []), (0, 1200, []), (0, 1200, []), (0, 1200, []), (0, 110, []), (0, 110, []), (0, 110, []), (0, 110, []), (0, 110, []), (0, 6, []), (0, 6, []), (0, 6, []), (0, 6, []), (0, 7, []), (0, 3, []), (0, 110, []), (0, 110, []), (0, 110, []), (0, 660, []), (0, 110, []), (0, 110, []), (0, 110, []), (0, 7, []), (0, 56, []), (0, 6, []), (0, 7, []), (0, 7, []), (0, 8, []), (0, 8, []), (0, 8, []), (0, 8, []), (0, 8, []), (4, 960, []), (4, 120, []), (4, 1, [])]
def qLay (c : Nat) : Nat × Nat × List Nat := qLayL.getD (c - 8) (0, 0, [])
def qfs (s : QST) (c : Nat) : Nat → List Nat → List Value
  | _, [] => []
  | k, t :: ts => (if t = 0 then .int (qF s c k) else if t = 1 then qX s else .ref t) :: qfs s c (k + 1) ts
def qcel (s : QST) (c : Nat) : va_E := match qLay c with
  | (0, n, _) => .inl (0, n, .inl (qE s c))
  | (1, ci, ts) => .inr (ci, qfs s c 0 ts)
  | (2, ty, ps) => .inl (ty, ps.getD 0 0, .inr (.inr (.inr (.inr (fun j => if j < ps.getD 0 0 then some (ps.getD 1 0 + ps.getD 2 0 * j) else none)))))
  | (3, n, _) => .inl (3, n, .inr (.inr (.inr (.inr (qT s c)))))
  | (_, n, _) => .inl (1, n, .inr (.inl (qL s c)))
/-- the heap -/
def qhp (s : QST) : pm_S := ((List.range 196).map (fun j => qcel s (j + 8)) ++ qR s, qN s)
def qLY (c : Nat) (x : Nat × Nat × List Nat) : Prop := 8 ≤ c ∧ c < 204 ∧ qLay c = x
theorem qfs_len {s : QST} {c : Nat} : ∀ (ts : List Nat) (k : Nat), (qfs s c k ts).length = ts.length := by
  intro ts
  induction ts with
  | nil => intro k; rfl
  | cons t ts ih => intro k; simp [qfs, ih]
theorem qfs_get {s : QST} {c : Nat} : ∀ (ts : List Nat) (k j : Nat), (qfs s c k ts)[j]? = (ts[j]?).map (fun t => if t = 0 then .int (qF s c (k + j)) else if t = 1 then qX s else .ref t) := by
  intro ts
  induction ts with
  | nil => intro k j; rfl
  | cons t ts ih =>
    intro k j
    cases j with
    | zero => rfl
    | succ j =>
      show (qfs s c (k + 1) ts)[j]? = _
      rw [ih, show k + 1 + j = k + (j + 1) by omega]
      rfl
theorem qfs_cg {s s' : QST} {c : Nat} (hx : qX s' = qX s) : ∀ (ts : List Nat) (k : Nat), (∀ j, k ≤ j → qF s' c j = qF s c j) → qfs s' c k ts = qfs s c k ts := by
  intro ts
  induction ts with
  | nil => intro k _; rfl
  | cons t ts ih =>
    intro k h
    unfold qfs
    rw [h k (Nat.le_refl _), hx, ih (k + 1) (fun j hj => h j (by omega))]
theorem qcel_cg {s s' : QST} {c : Nat} (hF : qF s' c = qF s c) (hE : qE s' c = qE s c) (hL : qL s' c = qL s c) (hT : qT s' c = qT s c) (hX : qX s' = qX s) : qcel s' c = qcel s c := by
  unfold qcel
  split
  · rw [hE]
  · rw [qfs_cg hX _ _ (fun j _ => by rw [hF])]
  · rfl
  · rw [hT]
  · rw [hL]
theorem qcel_0 {s : QST} {c n : Nat} {ts : List Nat} (h : qLY c (0, n, ts)) : qcel s c = .inl (0, n, .inl (qE s c)) := by
  unfold qcel; rw [h.2.2]; rfl
theorem qcel_1 {s : QST} {c ci : Nat} {ts : List Nat} (h : qLY c (1, ci, ts)) : qcel s c = .inr (ci, qfs s c 0 ts) := by
  unfold qcel; rw [h.2.2]; rfl
theorem qcel_2 {s : QST} {c ty : Nat} {ps : List Nat} (h : qLY c (2, ty, ps)) : qcel s c = .inl (ty, ps.getD 0 0, .inr (.inr (.inr (.inr (fun j => if j < ps.getD 0 0 then some (ps.getD 1 0 + ps.getD 2 0 * j) else none))))) := by
  unfold qcel; rw [h.2.2]; rfl
theorem qcel_3 {s : QST} {c n : Nat} {ts : List Nat} (h : qLY c (3, n, ts)) : qcel s c = .inl (3, n, .inr (.inr (.inr (.inr (qT s c))))) := by
  unfold qcel; rw [h.2.2]; rfl
theorem qcel_4 {s : QST} {c n : Nat} {ts : List Nat} (h : qLY c (4, n, ts)) : qcel s c = .inl (1, n, .inr (.inl (qL s c))) := by
  unfold qcel; rw [h.2.2]; rfl
theorem qhp_len {s : QST} : (qhp s).1.length = 196 + (qR s).length := by simp [qhp]
theorem qhp_cell {s : QST} {c : Nat} (h1 : 8 ≤ c) (h2 : c < 204) : pm_h (qhp s) c (qcel s c) := by
  refine ⟨h1, ?_⟩
  show ((List.range 196).map (fun j => qcel s (j + 8)) ++ qR s)[c - 8]? = _
  rw [List.getElem?_append_left (by simp; omega), List.getElem?_map, List.getElem?_range (by omega)]
  show some (qcel s (c - 8 + 8)) = _
  rw [show c - 8 + 8 = c by omega]
theorem qhp_rest {s : QST} {c : Nat} {e : va_E} (h1 : 204 ≤ c) (h2 : (qR s)[c - 204]? = some e) : pm_h (qhp s) c e := by
  refine ⟨by omega, ?_⟩
  show ((List.range 196).map (fun j => qcel s (j + 8)) ++ qR s)[c - 8]? = _
  rw [List.getElem?_append_right (by simp; omega)]
  simp only [List.length_map, List.length_range]
  rw [show c - 8 - 196 = c - 204 by omega]
  exact h2
/-- two heaps are one if they are so cell by cell -/
theorem qhp_ext {S : pm_S} {s : QST} (hl : S.1.length = 196 + (qR s).length) (hn : S.2 = qN s) (h1 : ∀ c, 8 ≤ c → c < 204 → pm_h S c (qcel s c)) (h2 : ∀ k e, (qR s)[k]? = some e → pm_h S (204 + k) e) : S = qhp s := by
  refine Prod.ext ?_ hn
  apply List.ext_getElem?
  intro i
  by_cases h : i < 196
  · have a := (h1 (i + 8) (by omega) (by omega)).2
    have b := (qhp_cell (s := s) (c := i + 8) (by omega) (by omega)).2
    rw [show i + 8 - 8 = i by omega] at a b
    rw [a, b]
  · by_cases h3 : i < 196 + (qR s).length
    · obtain ⟨e, he⟩ : ∃ e, (qR s)[i - 196]? = some e := ⟨_, List.getElem?_eq_getElem (by omega)⟩
      have a := (h2 (i - 196) e he).2
      have b := (qhp_rest (s := s) (c := 204 + (i - 196)) (by omega) (by rw [show 204 + (i - 196) - 204 = i - 196 by omega]; exact he)).2
      rw [show 204 + (i - 196) - 8 = i by omega] at a b
      rw [a, b]
    · rw [List.getElem?_eq_none (by omega), List.getElem?_eq_none (by rw [qhp_len]; omega)]
theorem qhp_put {s s' : QST} {c : Nat} (h1 : 8 ≤ c) (h2 : c < 204) (hc : ∀ c', c' ≠ c → qcel s' c' = qcel s c') (hR : qR s' = qR s) (hN : qN s' = qN s) : pm_put (qhp s) c (qcel s' c) = qhp s' := by
  refine qhp_ext ?_ ?_ ?_ ?_
  · rw [hR, ← qhp_len]; simp [pm_put]
  · rw [hN]; rfl
  · intro c' h3 h4
    by_cases e : c' = c
    · subst e; exact (qhp_cell h1 h2).eq
    · rw [hc c' e]; exact (qhp_cell h3 h4).ne e h1
  · intro k e he
    rw [hR] at he
    exact (qhp_rest (by omega) (by rw [show 204 + k - 204 = k by omega]; exact he)).ne (by omega) h1
theorem qhp_uA {s : QST} {c n : Nat} {ts : List Nat} (h : qLY c (0, n, ts)) (g : Nat → Int32) : pm_put (qhp s) c (.inl (0, n, .inl g)) = qhp (uA s c g) := by
  have e : (.inl (0, n, .inl g) : va_E) = qcel (uA s c g) c := by rw [qcel_0 h, qE_uAs]
  rw [e]
  exact qhp_put h.1 h.2.1 (fun c' hc => qcel_cg rfl (qE_uAc hc) rfl rfl rfl) rfl rfl
theorem qhp_uE {s : QST} {c n k : Nat} {ts : List Nat} {v : Int32} (h : qLY c (0, n, ts)) : pm_put (qhp s) c (.inl (0, n, .inl (upd (qE s c) k v))) = qhp (uE s c k v) := by
  rw [qhp_uA h, uE_uA]
theorem qhp_uL {s : QST} {c n k : Nat} {ts : List Nat} {v : Int64} (h : qLY c (4, n, ts)) : pm_put (qhp s) c (.inl (1, n, .inr (.inl (vp_updL (qL s c) k v)))) = qhp (uL s c k v) := by
  have e : (.inl (1, n, .inr (.inl (vp_updL (qL s c) k v))) : va_E) = qcel (uL s c k v) c := by
    rw [qcel_4 h]
    have : qL (uL s c k v) c = vp_updL (qL s c) k v := by
      funext j; simp [qL_uL, vp_updL]
    rw [this]
  rw [e]
  exact qhp_put h.1 h.2.1 (fun c' hc => qcel_cg rfl rfl (qL_uLc hc) rfl rfl) rfl rfl
theorem qhp_uT {s : QST} {c n k : Nat} {ts : List Nat} {v : Option Nat} (h : qLY c (3, n, ts)) : pm_put (qhp s) c (.inl (3, n, .inr (.inr (.inr (.inr (va_up (qT s c) k v)))))) = qhp (uT s c k v) := by
  have e : (.inl (3, n, .inr (.inr (.inr (.inr (va_up (qT s c) k v))))) : va_E) = qcel (uT s c k v) c := by
    rw [qcel_3 h]
    have : qT (uT s c k v) c = va_up (qT s c) k v := by
      funext j; simp [qT_uT, va_up]
    rw [this]
  rw [e]
  exact qhp_put h.1 h.2.1 (fun c' hc => qcel_cg rfl rfl rfl (qT_uTc hc) rfl) rfl rfl
theorem qfs_set {s : QST} {c : Nat} {v : Int32} : ∀ (ts : List Nat) (k j : Nat), ts[j]? = some 0 → (qfs s c k ts).set j (.int v) = qfs (uF s c (k + j) v) c k ts := by
  intro ts
  induction ts with
  | nil => intro k j h; cases h
  | cons t ts ih =>
    intro k j h
    cases j with
    | zero =>
      have ht : t = 0 := by simpa using h
      subst ht
      show Value.int v :: qfs s c (k + 1) ts = (if (0 : Nat) = 0 then Value.int (qF (uF s c k v) c k) else if (0 : Nat) = 1 then qX (uF s c k v) else .ref 0) :: qfs (uF s c k v) c (k + 1) ts
      rw [qF_uFs, if_pos rfl, qfs_cg (s := s) (s' := uF s c k v) rfl ts (k + 1) (fun j hj => qF_uFk (by omega))]
    | succ j =>
      have h' : ts[j]? = some 0 := by simpa using h
      unfold qfs
      rw [List.set_cons_succ, ih (k + 1) j h', show k + 1 + j = k + (j + 1) by omega, qF_uFk (by omega)]
      rfl
theorem qhp_uF {s : QST} {c ci k : Nat} {ts : List Nat} {v : Int32} (h : qLY c (1, ci, ts)) (hk : ts[k]? = some 0) : pm_put (qhp s) c (.inr (ci, (qfs s c 0 ts).set k (.int v))) = qhp (uF s c k v) := by
  have e : (.inr (ci, (qfs s c 0 ts).set k (.int v)) : va_E) = qcel (uF s c k v) c := by
    rw [qcel_1 h, qfs_set ts 0 k hk, Nat.zero_add]
  rw [e]
  exact qhp_put h.1 h.2.1 (fun c' hc => qcel_cg (qF_uFc hc) rfl rfl rfl rfl) rfl rfl
theorem qfs_setX {s : QST} {c : Nat} {v : Value} : (qfs s c 0 [1, 0, 0, 0, 0, 71, 72, 73]).set 0 v = qfs (uX s v) c 0 [1, 0, 0, 0, 0, 71, 72, 73] := rfl
set_option maxRecDepth 10000 in
theorem qLay_x : ∀ c, c < 204 → c ≠ 70 → ∀ t, t ∈ (qLay c).2.2 → t ≠ 1 ∨ (qLay c).1 ≠ 1 := by decide +kernel
theorem qfs_cX {s : QST} {c : Nat} {v : Value} : ∀ (ts : List Nat) (k : Nat), (∀ t, t ∈ ts → t ≠ 1) → qfs (uX s v) c k ts = qfs s c k ts := by
  intro ts
  induction ts with
  | nil => intro k _; rfl
  | cons t ts ih =>
    intro k h
    unfold qfs
    rw [ih (k + 1) (fun x hx => h x (List.mem_cons_of_mem _ hx)), qF_uX, if_neg (c := t = 1) (h t List.mem_cons_self), if_neg (c := t = 1) (h t List.mem_cons_self)]
theorem qhp_uX {s : QST} {v : Value} : pm_put (qhp s) 70 (.inr (6, (qfs s 70 0 [1, 0, 0, 0, 0, 71, 72, 73]).set 0 v)) = qhp (uX s v) := by
  have h : qLY 70 (1, 6, [1, 0, 0, 0, 0, 71, 72, 73]) := ⟨by decide, by decide, rfl⟩
  have e : (.inr (6, (qfs s 70 0 [1, 0, 0, 0, 0, 71, 72, 73]).set 0 v) : va_E) = qcel (uX s v) 70 := by
    rw [qcel_1 h, qfs_setX]
  rw [e]
  refine qhp_ext ?_ ?_ ?_ ?_
  · simp [pm_put, qhp, qR_uX]
  · rfl
  · intro c' h3 h4
    by_cases ec : c' = 70
    · subst ec; exact (qhp_cell (by decide) (by decide)).eq
    · have q : qcel (uX s v) c' = qcel s c' := by
        unfold qcel
        have hx := qLay_x c' h4 ec
        split
        · rfl
        · rename_i ci ts hts
          rw [qfs_cX]
          intro t ht
          have := hx t (by rw [hts]; exact ht)
          rw [hts] at this
          simpa using this
        · rfl
        · rfl
        · rfl
      rw [q]
      exact (qhp_cell h3 h4).ne ec (by decide)
  · intro k e he
    exact (qhp_rest (by omega) (by rw [show 204 + k - 204 = k by omega]; exact he)).ne (by omega) (by decide)
theorem ly_8 : qLY 8 (1, 9, [9, 39, 0, 69, 70, 74, 111, 115, 121]) := ⟨by decide, by decide, rfl⟩
theorem ly_9 : qLY 9 (1, 0, [0, 0, 0, 0, 10, 11]) := ⟨by decide, by decide, rfl⟩
theorem ly_10 : qLY 10 (2, 2, [9, 12, 3]) := ⟨by decide, by decide, rfl⟩
theorem ly_11 : qLY 11 (3, 12, []) := ⟨by decide, by decide, rfl⟩
theorem ly_12 : qLY 12 (1, 3, [0, 0, 0, 0, 0, 0, 13, 14]) := ⟨by decide, by decide, rfl⟩
theorem ly_13 : qLY 13 (0, 7, []) := ⟨by decide, by decide, rfl⟩
theorem ly_14 : qLY 14 (0, 7, []) := ⟨by decide, by decide, rfl⟩
theorem ly_15 : qLY 15 (1, 3, [0, 0, 0, 0, 0, 0, 16, 17]) := ⟨by decide, by decide, rfl⟩
theorem ly_16 : qLY 16 (0, 7, []) := ⟨by decide, by decide, rfl⟩
theorem ly_17 : qLY 17 (0, 7, []) := ⟨by decide, by decide, rfl⟩
theorem ly_18 : qLY 18 (1, 3, [0, 0, 0, 0, 0, 0, 19, 20]) := ⟨by decide, by decide, rfl⟩
theorem ly_19 : qLY 19 (0, 7, []) := ⟨by decide, by decide, rfl⟩
theorem ly_20 : qLY 20 (0, 7, []) := ⟨by decide, by decide, rfl⟩
theorem ly_21 : qLY 21 (1, 3, [0, 0, 0, 0, 0, 0, 22, 23]) := ⟨by decide, by decide, rfl⟩
theorem ly_22 : qLY 22 (0, 7, []) := ⟨by decide, by decide, rfl⟩
theorem ly_23 : qLY 23 (0, 7, []) := ⟨by decide, by decide, rfl⟩
theorem ly_24 : qLY 24 (1, 3, [0, 0, 0, 0, 0, 0, 25, 26]) := ⟨by decide, by decide, rfl⟩
theorem ly_25 : qLY 25 (0, 7, []) := ⟨by decide, by decide, rfl⟩
theorem ly_26 : qLY 26 (0, 7, []) := ⟨by decide, by decide, rfl⟩
theorem ly_27 : qLY 27 (1, 3, [0, 0, 0, 0, 0, 0, 28, 29]) := ⟨by decide, by decide, rfl⟩
theorem ly_28 : qLY 28 (0, 7, []) := ⟨by decide, by decide, rfl⟩
theorem ly_29 : qLY 29 (0, 7, []) := ⟨by decide, by decide, rfl⟩
theorem ly_30 : qLY 30 (1, 3, [0, 0, 0, 0, 0, 0, 31, 32]) := ⟨by decide, by decide, rfl⟩
theorem ly_31 : qLY 31 (0, 7, []) := ⟨by decide, by decide, rfl⟩
theorem ly_32 : qLY 32 (0, 7, []) := ⟨by decide, by decide, rfl⟩
theorem ly_33 : qLY 33 (1, 3, [0, 0, 0, 0, 0, 0, 34, 35]) := ⟨by decide, by decide, rfl⟩
theorem ly_34 : qLY 34 (0, 7, []) := ⟨by decide, by decide, rfl⟩
theorem ly_35 : qLY 35 (0, 7, []) := ⟨by decide, by decide, rfl⟩
theorem ly_36 : qLY 36 (1, 3, [0, 0, 0, 0, 0, 0, 37, 38]) := ⟨by decide, by decide, rfl⟩
theorem ly_37 : qLY 37 (0, 7, []) := ⟨by decide, by decide, rfl⟩
theorem ly_38 : qLY 38 (0, 7, []) := ⟨by decide, by decide, rfl⟩
theorem ly_39 : qLY 39 (1, 0, [0, 0, 0, 0, 40, 41]) := ⟨by decide, by decide, rfl⟩
theorem ly_40 : qLY 40 (2, 2, [9, 42, 3]) := ⟨by decide, by decide, rfl⟩
theorem ly_41 : qLY 41 (3, 12, []) := ⟨by decide, by decide, rfl⟩
theorem ly_42 : qLY 42 (1, 3, [0, 0, 0, 0, 0, 0, 43, 44]) := ⟨by decide, by decide, rfl⟩
theorem ly_43 : qLY 43 (0, 7, []) := ⟨by decide, by decide, rfl⟩
theorem ly_44 : qLY 44 (0, 7, []) := ⟨by decide, by decide, rfl⟩
theorem ly_45 : qLY 45 (1, 3, [0, 0, 0, 0, 0, 0, 46, 47]) := ⟨by decide, by decide, rfl⟩
theorem ly_46 : qLY 46 (0, 7, []) := ⟨by decide, by decide, rfl⟩
theorem ly_47 : qLY 47 (0, 7, []) := ⟨by decide, by decide, rfl⟩
theorem ly_48 : qLY 48 (1, 3, [0, 0, 0, 0, 0, 0, 49, 50]) := ⟨by decide, by decide, rfl⟩
theorem ly_49 : qLY 49 (0, 7, []) := ⟨by decide, by decide, rfl⟩
theorem ly_50 : qLY 50 (0, 7, []) := ⟨by decide, by decide, rfl⟩
theorem ly_51 : qLY 51 (1, 3, [0, 0, 0, 0, 0, 0, 52, 53]) := ⟨by decide, by decide, rfl⟩
theorem ly_52 : qLY 52 (0, 7, []) := ⟨by decide, by decide, rfl⟩
theorem ly_53 : qLY 53 (0, 7, []) := ⟨by decide, by decide, rfl⟩
theorem ly_54 : qLY 54 (1, 3, [0, 0, 0, 0, 0, 0, 55, 56]) := ⟨by decide, by decide, rfl⟩
theorem ly_55 : qLY 55 (0, 7, []) := ⟨by decide, by decide, rfl⟩
theorem ly_56 : qLY 56 (0, 7, []) := ⟨by decide, by decide, rfl⟩
theorem ly_57 : qLY 57 (1, 3, [0, 0, 0, 0, 0, 0, 58, 59]) := ⟨by decide, by decide, rfl⟩
theorem ly_58 : qLY 58 (0, 7, []) := ⟨by decide, by decide, rfl⟩
theorem ly_59 : qLY 59 (0, 7, []) := ⟨by decide, by decide, rfl⟩
theorem ly_60 : qLY 60 (1, 3, [0, 0, 0, 0, 0, 0, 61, 62]) := ⟨by decide, by decide, rfl⟩
theorem ly_61 : qLY 61 (0, 7, []) := ⟨by decide, by decide, rfl⟩
theorem ly_62 : qLY 62 (0, 7, []) := ⟨by decide, by decide, rfl⟩
theorem ly_63 : qLY 63 (1, 3, [0, 0, 0, 0, 0, 0, 64, 65]) := ⟨by decide, by decide, rfl⟩
theorem ly_64 : qLY 64 (0, 7, []) := ⟨by decide, by decide, rfl⟩
theorem ly_65 : qLY 65 (0, 7, []) := ⟨by decide, by decide, rfl⟩
theorem ly_66 : qLY 66 (1, 3, [0, 0, 0, 0, 0, 0, 67, 68]) := ⟨by decide, by decide, rfl⟩
theorem ly_67 : qLY 67 (0, 7, []) := ⟨by decide, by decide, rfl⟩
theorem ly_68 : qLY 68 (0, 7, []) := ⟨by decide, by decide, rfl⟩
theorem ly_69 : qLY 69 (2, 4, [8, 123, 5]) := ⟨by decide, by decide, rfl⟩
theorem ly_70 : qLY 70 (1, 6, [1, 0, 0, 0, 0, 71, 72, 73]) := ⟨by decide, by decide, rfl⟩
theorem ly_71 : qLY 71 (0, 120, []) := ⟨by decide, by decide, rfl⟩
theorem ly_72 : qLY 72 (0, 120, []) := ⟨by decide, by decide, rfl⟩
theorem ly_73 : qLY 73 (0, 120, []) := ⟨by decide, by decide, rfl⟩
theorem ly_74 : qLY 74 (1, 1, [0, 0, 0, 75, 76, 77, 78, 79, 80, 81, 82, 83]) := ⟨by decide, by decide, rfl⟩
theorem ly_75 : qLY 75 (2, 2, [9, 84, 3]) := ⟨by decide, by decide, rfl⟩
theorem ly_76 : qLY 76 (0, 64, []) := ⟨by decide, by decide, rfl⟩
theorem ly_77 : qLY 77 (0, 64, []) := ⟨by decide, by decide, rfl⟩
theorem ly_78 : qLY 78 (0, 64, []) := ⟨by decide, by decide, rfl⟩
theorem ly_79 : qLY 79 (0, 64, []) := ⟨by decide, by decide, rfl⟩
theorem ly_80 : qLY 80 (0, 64, []) := ⟨by decide, by decide, rfl⟩
theorem ly_81 : qLY 81 (0, 384, []) := ⟨by decide, by decide, rfl⟩
theorem ly_82 : qLY 82 (0, 3, []) := ⟨by decide, by decide, rfl⟩
theorem ly_83 : qLY 83 (0, 64, []) := ⟨by decide, by decide, rfl⟩
theorem ly_84 : qLY 84 (1, 3, [0, 0, 0, 0, 0, 0, 85, 86]) := ⟨by decide, by decide, rfl⟩
theorem ly_85 : qLY 85 (0, 7, []) := ⟨by decide, by decide, rfl⟩
theorem ly_86 : qLY 86 (0, 7, []) := ⟨by decide, by decide, rfl⟩
theorem ly_87 : qLY 87 (1, 3, [0, 0, 0, 0, 0, 0, 88, 89]) := ⟨by decide, by decide, rfl⟩
theorem ly_88 : qLY 88 (0, 7, []) := ⟨by decide, by decide, rfl⟩
theorem ly_89 : qLY 89 (0, 7, []) := ⟨by decide, by decide, rfl⟩
theorem ly_90 : qLY 90 (1, 3, [0, 0, 0, 0, 0, 0, 91, 92]) := ⟨by decide, by decide, rfl⟩
theorem ly_91 : qLY 91 (0, 7, []) := ⟨by decide, by decide, rfl⟩
theorem ly_92 : qLY 92 (0, 7, []) := ⟨by decide, by decide, rfl⟩
theorem ly_93 : qLY 93 (1, 3, [0, 0, 0, 0, 0, 0, 94, 95]) := ⟨by decide, by decide, rfl⟩
theorem ly_94 : qLY 94 (0, 7, []) := ⟨by decide, by decide, rfl⟩
theorem ly_95 : qLY 95 (0, 7, []) := ⟨by decide, by decide, rfl⟩
theorem ly_96 : qLY 96 (1, 3, [0, 0, 0, 0, 0, 0, 97, 98]) := ⟨by decide, by decide, rfl⟩
theorem ly_97 : qLY 97 (0, 7, []) := ⟨by decide, by decide, rfl⟩
theorem ly_98 : qLY 98 (0, 7, []) := ⟨by decide, by decide, rfl⟩
theorem ly_99 : qLY 99 (1, 3, [0, 0, 0, 0, 0, 0, 100, 101]) := ⟨by decide, by decide, rfl⟩
theorem ly_100 : qLY 100 (0, 7, []) := ⟨by decide, by decide, rfl⟩
theorem ly_101 : qLY 101 (0, 7, []) := ⟨by decide, by decide, rfl⟩
theorem ly_102 : qLY 102 (1, 3, [0, 0, 0, 0, 0, 0, 103, 104]) := ⟨by decide, by decide, rfl⟩
theorem ly_103 : qLY 103 (0, 7, []) := ⟨by decide, by decide, rfl⟩
theorem ly_104 : qLY 104 (0, 7, []) := ⟨by decide, by decide, rfl⟩
theorem ly_105 : qLY 105 (1, 3, [0, 0, 0, 0, 0, 0, 106, 107]) := ⟨by decide, by decide, rfl⟩
theorem ly_106 : qLY 106 (0, 7, []) := ⟨by decide, by decide, rfl⟩
theorem ly_107 : qLY 107 (0, 7, []) := ⟨by decide, by decide, rfl⟩
theorem ly_108 : qLY 108 (1, 3, [0, 0, 0, 0, 0, 0, 109, 110]) := ⟨by decide, by decide, rfl⟩
theorem ly_109 : qLY 109 (0, 7, []) := ⟨by decide, by decide, rfl⟩
theorem ly_110 : qLY 110 (0, 7, []) := ⟨by decide, by decide, rfl⟩
theorem ly_111 : qLY 111 (1, 4, [0, 0, 112, 113, 114]) := ⟨by decide, by decide, rfl⟩
theorem ly_112 : qLY 112 (0, 7, []) := ⟨by decide, by decide, rfl⟩
theorem ly_113 : qLY 113 (0, 7, []) := ⟨by decide, by decide, rfl⟩
theorem ly_114 : qLY 114 (0, 128, []) := ⟨by decide, by decide, rfl⟩
theorem ly_115 : qLY 115 (1, 5, [9, 74, 116, 117, 118, 119, 120, 0]) := ⟨by decide, by decide, rfl⟩
theorem ly_116 : qLY 116 (0, 6, []) := ⟨by decide, by decide, rfl⟩
theorem ly_117 : qLY 117 (0, 7, []) := ⟨by decide, by decide, rfl⟩
theorem ly_118 : qLY 118 (0, 7, []) := ⟨by decide, by decide, rfl⟩
theorem ly_119 : qLY 119 (0, 7, []) := ⟨by decide, by decide, rfl⟩
theorem ly_120 : qLY 120 (0, 7, []) := ⟨by decide, by decide, rfl⟩
theorem ly_121 : qLY 121 (1, 2, [74, 0, 0, 122]) := ⟨by decide, by decide, rfl⟩
theorem ly_122 : qLY 122 (0, 216, []) := ⟨by decide, by decide, rfl⟩
theorem ly_123 : qLY 123 (1, 7, [0, 0, 0, 124, 127]) := ⟨by decide, by decide, rfl⟩
theorem ly_124 : qLY 124 (1, 3, [0, 0, 0, 0, 0, 0, 125, 126]) := ⟨by decide, by decide, rfl⟩
theorem ly_125 : qLY 125 (0, 7, []) := ⟨by decide, by decide, rfl⟩
theorem ly_126 : qLY 126 (0, 7, []) := ⟨by decide, by decide, rfl⟩
theorem ly_127 : qLY 127 (0, 120, []) := ⟨by decide, by decide, rfl⟩
theorem ly_128 : qLY 128 (1, 7, [0, 0, 0, 129, 132]) := ⟨by decide, by decide, rfl⟩
theorem ly_129 : qLY 129 (1, 3, [0, 0, 0, 0, 0, 0, 130, 131]) := ⟨by decide, by decide, rfl⟩
theorem ly_130 : qLY 130 (0, 7, []) := ⟨by decide, by decide, rfl⟩
theorem ly_131 : qLY 131 (0, 7, []) := ⟨by decide, by decide, rfl⟩
theorem ly_132 : qLY 132 (0, 120, []) := ⟨by decide, by decide, rfl⟩
theorem ly_133 : qLY 133 (1, 7, [0, 0, 0, 134, 137]) := ⟨by decide, by decide, rfl⟩
theorem ly_134 : qLY 134 (1, 3, [0, 0, 0, 0, 0, 0, 135, 136]) := ⟨by decide, by decide, rfl⟩
theorem ly_135 : qLY 135 (0, 7, []) := ⟨by decide, by decide, rfl⟩
theorem ly_136 : qLY 136 (0, 7, []) := ⟨by decide, by decide, rfl⟩
theorem ly_137 : qLY 137 (0, 120, []) := ⟨by decide, by decide, rfl⟩
theorem ly_138 : qLY 138 (1, 7, [0, 0, 0, 139, 142]) := ⟨by decide, by decide, rfl⟩
theorem ly_139 : qLY 139 (1, 3, [0, 0, 0, 0, 0, 0, 140, 141]) := ⟨by decide, by decide, rfl⟩
theorem ly_140 : qLY 140 (0, 7, []) := ⟨by decide, by decide, rfl⟩
theorem ly_141 : qLY 141 (0, 7, []) := ⟨by decide, by decide, rfl⟩
theorem ly_142 : qLY 142 (0, 120, []) := ⟨by decide, by decide, rfl⟩
theorem ly_143 : qLY 143 (1, 7, [0, 0, 0, 144, 147]) := ⟨by decide, by decide, rfl⟩
theorem ly_144 : qLY 144 (1, 3, [0, 0, 0, 0, 0, 0, 145, 146]) := ⟨by decide, by decide, rfl⟩
theorem ly_145 : qLY 145 (0, 7, []) := ⟨by decide, by decide, rfl⟩
theorem ly_146 : qLY 146 (0, 7, []) := ⟨by decide, by decide, rfl⟩
theorem ly_147 : qLY 147 (0, 120, []) := ⟨by decide, by decide, rfl⟩
theorem ly_148 : qLY 148 (1, 7, [0, 0, 0, 149, 152]) := ⟨by decide, by decide, rfl⟩
theorem ly_149 : qLY 149 (1, 3, [0, 0, 0, 0, 0, 0, 150, 151]) := ⟨by decide, by decide, rfl⟩
theorem ly_150 : qLY 150 (0, 7, []) := ⟨by decide, by decide, rfl⟩
theorem ly_151 : qLY 151 (0, 7, []) := ⟨by decide, by decide, rfl⟩
theorem ly_152 : qLY 152 (0, 120, []) := ⟨by decide, by decide, rfl⟩
theorem ly_153 : qLY 153 (1, 7, [0, 0, 0, 154, 157]) := ⟨by decide, by decide, rfl⟩
theorem ly_154 : qLY 154 (1, 3, [0, 0, 0, 0, 0, 0, 155, 156]) := ⟨by decide, by decide, rfl⟩
theorem ly_155 : qLY 155 (0, 7, []) := ⟨by decide, by decide, rfl⟩
theorem ly_156 : qLY 156 (0, 7, []) := ⟨by decide, by decide, rfl⟩
theorem ly_157 : qLY 157 (0, 120, []) := ⟨by decide, by decide, rfl⟩
theorem ly_158 : qLY 158 (1, 7, [0, 0, 0, 159, 162]) := ⟨by decide, by decide, rfl⟩
theorem ly_159 : qLY 159 (1, 3, [0, 0, 0, 0, 0, 0, 160, 161]) := ⟨by decide, by decide, rfl⟩
theorem ly_160 : qLY 160 (0, 7, []) := ⟨by decide, by decide, rfl⟩
theorem ly_161 : qLY 161 (0, 7, []) := ⟨by decide, by decide, rfl⟩
theorem ly_162 : qLY 162 (0, 120, []) := ⟨by decide, by decide, rfl⟩
theorem ly_163 : qLY 163 (1, 10, [0, 164, 165, 0, 166, 167, 168, 169, 170, 171, 172, 0, 0, 0, 0, 0, 0, 173, 174, 175, 176, 177, 178, 179, 180, 181, 0, 0, 0, 0, 0, 0, 182, 0, 0, 0, 183, 184, 185, 186, 187, 188, 189, 190, 191, 0, 192, 193, 194, 195, 196, 197, 198, 199, 200, 201, 202]) := ⟨by decide, by decide, rfl⟩
theorem ly_164 : qLY 164 (0, 200, []) := ⟨by decide, by decide, rfl⟩
theorem ly_165 : qLY 165 (0, 200, []) := ⟨by decide, by decide, rfl⟩
theorem ly_166 : qLY 166 (0, 12, []) := ⟨by decide, by decide, rfl⟩
theorem ly_167 : qLY 167 (0, 12, []) := ⟨by decide, by decide, rfl⟩
theorem ly_168 : qLY 168 (0, 1200, []) := ⟨by decide, by decide, rfl⟩
theorem ly_169 : qLY 169 (0, 1200, []) := ⟨by decide, by decide, rfl⟩
theorem ly_170 : qLY 170 (0, 1200, []) := ⟨by decide, by decide, rfl⟩
theorem ly_171 : qLY 171 (0, 1200, []) := ⟨by decide, by decide, rfl⟩
theorem ly_172 : qLY 172 (0, 1200, []) := ⟨by decide, by decide, rfl⟩
theorem ly_173 : qLY 173 (0, 110, []) := ⟨by decide, by decide, rfl⟩
theorem ly_174 : qLY 174 (0, 110, []) := ⟨by decide, by decide, rfl⟩
theorem ly_175 : qLY 175 (0, 110, []) := ⟨by decide, by decide, rfl⟩
theorem ly_176 : qLY 176 (0, 110, []) := ⟨by decide, by decide, rfl⟩
theorem ly_177 : qLY 177 (0, 110, []) := ⟨by decide, by decide, rfl⟩
theorem ly_178 : qLY 178 (0, 6, []) := ⟨by decide, by decide, rfl⟩
theorem ly_179 : qLY 179 (0, 6, []) := ⟨by decide, by decide, rfl⟩
theorem ly_180 : qLY 180 (0, 6, []) := ⟨by decide, by decide, rfl⟩
theorem ly_181 : qLY 181 (0, 6, []) := ⟨by decide, by decide, rfl⟩
theorem ly_182 : qLY 182 (0, 7, []) := ⟨by decide, by decide, rfl⟩
theorem ly_183 : qLY 183 (0, 3, []) := ⟨by decide, by decide, rfl⟩
theorem ly_184 : qLY 184 (0, 110, []) := ⟨by decide, by decide, rfl⟩
theorem ly_185 : qLY 185 (0, 110, []) := ⟨by decide, by decide, rfl⟩
theorem ly_186 : qLY 186 (0, 110, []) := ⟨by decide, by decide, rfl⟩
theorem ly_187 : qLY 187 (0, 660, []) := ⟨by decide, by decide, rfl⟩
theorem ly_188 : qLY 188 (0, 110, []) := ⟨by decide, by decide, rfl⟩
theorem ly_189 : qLY 189 (0, 110, []) := ⟨by decide, by decide, rfl⟩
theorem ly_190 : qLY 190 (0, 110, []) := ⟨by decide, by decide, rfl⟩
theorem ly_191 : qLY 191 (0, 7, []) := ⟨by decide, by decide, rfl⟩
theorem ly_192 : qLY 192 (0, 56, []) := ⟨by decide, by decide, rfl⟩
theorem ly_193 : qLY 193 (0, 6, []) := ⟨by decide, by decide, rfl⟩
theorem ly_194 : qLY 194 (0, 7, []) := ⟨by decide, by decide, rfl⟩
theorem ly_195 : qLY 195 (0, 7, []) := ⟨by decide, by decide, rfl⟩
theorem ly_196 : qLY 196 (0, 8, []) := ⟨by decide, by decide, rfl⟩
theorem ly_197 : qLY 197 (0, 8, []) := ⟨by decide, by decide, rfl⟩
theorem ly_198 : qLY 198 (0, 8, []) := ⟨by decide, by decide, rfl⟩
theorem ly_199 : qLY 199 (0, 8, []) := ⟨by decide, by decide, rfl⟩
theorem ly_200 : qLY 200 (0, 8, []) := ⟨by decide, by decide, rfl⟩
theorem ly_201 : qLY 201 (4, 960, []) := ⟨by decide, by decide, rfl⟩
theorem ly_202 : qLY 202 (4, 120, []) := ⟨by decide, by decide, rfl⟩
theorem ly_203 : qLY 203 (4, 1, []) := ⟨by decide, by decide, rfl⟩
/-- a member's object, its wishes, its doubts -/
abbrev qMB (A : Nat) : Prop := qLY A (1, 3, [0, 0, 0, 0, 0, 0, A + 1, A + 2]) ∧ qLY (A + 1) (0, 7, []) ∧ qLY (A + 2) (0, 7, [])
theorem mb_now {m : Nat} (h : m < 9) : qMB (12 + 3 * m) := by
  rcases (show m = 0 ∨ m = 1 ∨ m = 2 ∨ m = 3 ∨ m = 4 ∨ m = 5 ∨ m = 6 ∨ m = 7 ∨ m = 8 by omega) with rfl | rfl | rfl | rfl | rfl | rfl | rfl | rfl | rfl
  · exact ⟨ly_12, ly_13, ly_14⟩
  · exact ⟨ly_15, ly_16, ly_17⟩
  · exact ⟨ly_18, ly_19, ly_20⟩
  · exact ⟨ly_21, ly_22, ly_23⟩
  · exact ⟨ly_24, ly_25, ly_26⟩
  · exact ⟨ly_27, ly_28, ly_29⟩
  · exact ⟨ly_30, ly_31, ly_32⟩
  · exact ⟨ly_33, ly_34, ly_35⟩
  · exact ⟨ly_36, ly_37, ly_38⟩
theorem mb_pic {m : Nat} (h : m < 9) : qMB (42 + 3 * m) := by
  rcases (show m = 0 ∨ m = 1 ∨ m = 2 ∨ m = 3 ∨ m = 4 ∨ m = 5 ∨ m = 6 ∨ m = 7 ∨ m = 8 by omega) with rfl | rfl | rfl | rfl | rfl | rfl | rfl | rfl | rfl
  · exact ⟨ly_42, ly_43, ly_44⟩
  · exact ⟨ly_45, ly_46, ly_47⟩
  · exact ⟨ly_48, ly_49, ly_50⟩
  · exact ⟨ly_51, ly_52, ly_53⟩
  · exact ⟨ly_54, ly_55, ly_56⟩
  · exact ⟨ly_57, ly_58, ly_59⟩
  · exact ⟨ly_60, ly_61, ly_62⟩
  · exact ⟨ly_63, ly_64, ly_65⟩
  · exact ⟨ly_66, ly_67, ly_68⟩
theorem mb_seat {m : Nat} (h : m < 9) : qMB (84 + 3 * m) := by
  rcases (show m = 0 ∨ m = 1 ∨ m = 2 ∨ m = 3 ∨ m = 4 ∨ m = 5 ∨ m = 6 ∨ m = 7 ∨ m = 8 by omega) with rfl | rfl | rfl | rfl | rfl | rfl | rfl | rfl | rfl
  · exact ⟨ly_84, ly_85, ly_86⟩
  · exact ⟨ly_87, ly_88, ly_89⟩
  · exact ⟨ly_90, ly_91, ly_92⟩
  · exact ⟨ly_93, ly_94, ly_95⟩
  · exact ⟨ly_96, ly_97, ly_98⟩
  · exact ⟨ly_99, ly_100, ly_101⟩
  · exact ⟨ly_102, ly_103, ly_104⟩
  · exact ⟨ly_105, ly_106, ly_107⟩
  · exact ⟨ly_108, ly_109, ly_110⟩
theorem ly_sh {d : Nat} (h : d < 8) : qLY (123 + 5 * d) (1, 7, [0, 0, 0, 123 + 5 * d + 1, 123 + 5 * d + 4]) := by
  rcases (show d = 0 ∨ d = 1 ∨ d = 2 ∨ d = 3 ∨ d = 4 ∨ d = 5 ∨ d = 6 ∨ d = 7 by omega) with rfl | rfl | rfl | rfl | rfl | rfl | rfl | rfl
  · exact ly_123
  · exact ly_128
  · exact ly_133
  · exact ly_138
  · exact ly_143
  · exact ly_148
  · exact ly_153
  · exact ly_158
theorem ly_shc {d : Nat} (h : d < 8) : qLY (123 + 5 * d + 4) (0, 120, []) := by
  rcases (show d = 0 ∨ d = 1 ∨ d = 2 ∨ d = 3 ∨ d = 4 ∨ d = 5 ∨ d = 6 ∨ d = 7 by omega) with rfl | rfl | rfl | rfl | rfl | rfl | rfl | rfl
  · exact ly_127
  · exact ly_132
  · exact ly_137
  · exact ly_142
  · exact ly_147
  · exact ly_152
  · exact ly_157
  · exact ly_162
theorem mb_sh {d : Nat} (h : d < 8) : qMB (123 + 5 * d + 1) := by
  rcases (show d = 0 ∨ d = 1 ∨ d = 2 ∨ d = 3 ∨ d = 4 ∨ d = 5 ∨ d = 6 ∨ d = 7 by omega) with rfl | rfl | rfl | rfl | rfl | rfl | rfl | rfl
  · exact ⟨ly_124, ly_125, ly_126⟩
  · exact ⟨ly_129, ly_130, ly_131⟩
  · exact ⟨ly_134, ly_135, ly_136⟩
  · exact ⟨ly_139, ly_140, ly_141⟩
  · exact ⟨ly_144, ly_145, ly_146⟩
  · exact ⟨ly_149, ly_150, ly_151⟩
  · exact ⟨ly_154, ly_155, ly_156⟩
  · exact ⟨ly_159, ly_160, ly_161⟩
theorem ly_ma {k : Nat} (h : k < 37) : qLY (164 + k) (0, msz k, []) := by
  rcases (show k = 0 ∨ k = 1 ∨ k = 2 ∨ k = 3 ∨ k = 4 ∨ k = 5 ∨ k = 6 ∨ k = 7 ∨ k = 8 ∨ k = 9 ∨ k = 10 ∨ k = 11 ∨ k = 12 ∨ k = 13 ∨ k = 14 ∨ k = 15 ∨ k = 16 ∨ k = 17 ∨ k = 18 ∨ k = 19 ∨ k = 20 ∨ k = 21 ∨ k = 22 ∨ k = 23 ∨ k = 24 ∨ k = 25 ∨ k = 26 ∨ k = 27 ∨ k = 28 ∨ k = 29 ∨ k = 30 ∨ k = 31 ∨ k = 32 ∨ k = 33 ∨ k = 34 ∨ k = 35 ∨ k = 36 by omega) with rfl | rfl | rfl | rfl | rfl | rfl | rfl | rfl | rfl | rfl | rfl | rfl | rfl | rfl | rfl | rfl | rfl | rfl | rfl | rfl | rfl | rfl | rfl | rfl | rfl | rfl | rfl | rfl | rfl | rfl | rfl | rfl | rfl | rfl | rfl | rfl | rfl
  · exact ly_164
  · exact ly_165
  · exact ly_166
  · exact ly_167
  · exact ly_168
  · exact ly_169
  · exact ly_170
  · exact ly_171
  · exact ly_172
  · exact ly_173
  · exact ly_174
  · exact ly_175
  · exact ly_176
  · exact ly_177
  · exact ly_178
  · exact ly_179
  · exact ly_180
  · exact ly_181
  · exact ly_182
  · exact ly_183
  · exact ly_184
  · exact ly_185
  · exact ly_186
  · exact ly_187
  · exact ly_188
  · exact ly_189
  · exact ly_190
  · exact ly_191
  · exact ly_192
  · exact ly_193
  · exact ly_194
  · exact ly_195
  · exact ly_196
  · exact ly_197
  · exact ly_198
  · exact ly_199
  · exact ly_200
