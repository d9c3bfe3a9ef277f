/-! the two objects as they are made: by the kernel -/
def XN : pm_X := fun _ => none
/-- arrays of objects: nothing beyond their end -/
def cn (e : va_E) : va_E := match e with
  | .inl (t, n, .inr (.inr (.inr (.inr g)))) => .inl (t, n, .inr (.inr (.inr (.inr (fun j => if j < n then g j else none)))))
  | e => e
def cnT (t : pm_T) : pm_T := (t.1, (t.2.1.map cn, t.2.2))
def inip (k : Nat) (as : List Value) (S : pm_S) : Option pm_T := (pm_call XN pm_Ms PR0 60 k as S).map cnT
def hp1 : pm_S := match inip 106 [.ref 8] ([.inr (9, pm_blank 9)], pm_N 9) with
  | some t => t.2
  | none => ([], 0)
def hp2 : pm_S := match inip 161 [.ref 163] (hp1.1 ++ [.inr (10, pm_blank 10)], hp1.2 + pm_N 10) with
  | some t => t.2
  | none => ([], 0)
theorem ini1_ok : (match inip 106 [.ref 8] ([.inr (9, pm_blank 9)], pm_N 9) with
  | some (none, S) => S.1.length == 155
  | _ => false) = true := by decide +kernel
theorem ini2_ok : (match inip 161 [.ref 163] (hp1.1 ++ [.inr (10, pm_blank 10)], hp1.2 + pm_N 10) with
  | some (none, S) => S.1.length == 195 && decide (S.2 < 100000)
  | _ => false) = true := by decide +kernel
theorem hp1_eq : inip 106 [.ref 8] ([.inr (9, pm_blank 9)], pm_N 9) = some (none, hp1) ∧ hp1.1.length = 155 := by
  have h := ini1_ok
  unfold hp1
  split at h
  · rename_i S e
    rw [e]
    exact ⟨rfl, by simpa using h⟩
  · cases h
theorem hp2_eq : inip 161 [.ref 163] (hp1.1 ++ [.inr (10, pm_blank 10)], hp1.2 + pm_N 10) = some (none, hp2) ∧ hp2.1.length = 195 ∧ hp2.2 < 100000 := by
  have h := ini2_ok
  unfold hp2
  split at h
  · rename_i S e
    rw [e]
    simp only [Bool.and_eq_true, decide_eq_true_eq, beq_iff_eq] at h
    exact ⟨rfl, h.1, h.2⟩
  · cases h
def hp3 : pm_S := (hp2.1 ++ [.inl (1, 1, .inr (.inl (fun _ => 0)))], hp2.2 + 1)
section
variable {l : Launch} {sa : Nat → Nat} {base : Nat} {dC : Nat → ClassId} {dI : Nat → Nat → Nat} {dA : Nat → ClassId} {X : pm_X}
theorem arrV_cg {cI : ClassId} {N : Nat} {f g : Nat → Value} (h : ∀ j, j < N → f j = g j) : arrV cI N f = arrV cI N g := by
  unfold arrV
  have : (Array.ofFn (n := N) fun j => f j.val) = Array.ofFn (n := N) fun j => g j.val := by
    congr 1
    funext j
    exact h j.val j.isLt
  rw [this]
theorem cn_P {S : List va_E} {H : Heap} (h : va_P (dC, dI) pm_cl (pm_W (pm_ad sa base) base dA S) H) : va_P (dC, dI) pm_cl (pm_W (pm_ad sa base) base dA (S.map cn)) H := by
  intro k q hq
  rw [pm_W_get, List.getElem?_map] at hq
  cases hk : S[k]? with
  | none => rw [hk] at hq; cases hq
  | some e =>
    rw [hk] at hq
    cases hq
    have h1 := h k _ (pm_W_at hk)
    unfold cn
    split
    · rename_i t n g
      have h2 : H[base + k]? = some (arrV (dA t) n (fun j => va_rf ((g j).map (pm_ad sa base)))) := h1
      show H[base + k]? = some (arrV (dA t) n (fun j => va_rf ((if j < n then g j else none).map (pm_ad sa base))))
      rw [h2]
      congr 1
      exact arrV_cg (fun j hj => by rw [if_pos hj])
    · exact h1
theorem ini_CB {mid : Nat} {mm : pm_M} {as : List Value} {S : pm_S} {t : pm_T} (hm : pm_Ms[mid]? = some mm) (hn : mm.1.1.name = "<init>") (h : inip mid as S = some t) : pm_CB l sa base dC dI dA X 60 mm as S t := by
  unfold inip at h
  cases h0 : pm_call XN pm_Ms PR0 60 mid as S with
  | none => rw [h0] at h; cases h
  | some u =>
    rw [h0] at h
    cases h
    have hc := pm_all (l := l) (sa := sa) (base := base) (dC := dC) (dI := dI) (dA := dA) (X := XN) (M := pm_Ms) (PR := PR0) (fun mid mm h1 h2 => pm_ckall mid mm h1 (PR0_none h2)) (fun mid g hg as S t h => by rw [PR0_some hg] at h; cases h) (fun mid mm g _ hg d _ as S t h => by rw [PR0_some hg] at h; cases h) 60 mid mm as S u hm h0
    have hlen : (cnT u).2.1.length = u.2.1.length := by show (u.2.1.map cn).length = _; rw [List.length_map]
    intro p e R s m9 args below meth c cc nL own n0 sl0 nf slf pc idx i L rest H locs ls cells slots C hfr hlo hR hsum hle hnf hsl hdg hkd hlk
    obtain ⟨x1, x2, x3, x4, x5, x6, ⟨y1, y2, y3⟩, x8⟩ := C
    have hkd2 : pm_kd XN mm i idx as S := by
      rcases hkd with h | ⟨_, _, z, _⟩ | h
      · exact Or.inl h
      · exact absurd hn z
      · exact Or.inr (Or.inr h)
    have hr := hc p e R s m9 args below meth c cc nL own n0 sl0 nf slf pc idx i L rest H locs ls cells slots ⟨x1, x2, x3, x4, x5, x6, ⟨y1, fun k n f hk => (by cases hk), y3⟩, x8⟩ hfr hlo hR hsum ⟨by rw [← hlen]; exact hle.1, hle.2⟩ (by rw [← hlen]; exact hnf) hsl hdg hkd2 hlk
    rw [hlen]
    intro T hT XS
    obtain ⟨v, st₀, t9, T', LL9, g1, g2, g3, g4, g5, ⟨q1, q2, q3, q4⟩, g6⟩ := hr T hT XS
    exact ⟨v, st₀, t9, T', LL9, g1, g2, g3, g4, g5, ⟨q1, cn_P q2, by rw [q3, hlen], q4⟩, g6⟩
end
theorem inip_le {k : Nat} {as : List Value} {S : pm_S} {t : pm_T} (h : inip k as S = some t) : pm_le S t.2 := by
  unfold inip at h
  cases h0 : pm_call XN pm_Ms PR0 60 k as S with
  | none => rw [h0] at h; cases h
  | some u =>
    rw [h0] at h
    cases h
    have := pm_m_call (X := XN) (M := pm_Ms) (PR := PR0) (fun mid g hg as S t h => by rw [PR0_some hg] at h; cases h) 60 _ _ _ _ h0
    exact ⟨by show _ ≤ (u.2.1.map cn).length; rw [List.length_map]; exact this.1, this.2⟩
