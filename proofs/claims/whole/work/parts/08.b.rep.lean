/-! THE MEMORY AND THE HEAP: what it means that a heap holds a memory -/
def xty (t : Nat) : FieldType := match t with
  | 0 => .int
  | 1 => .long
  | 2 => .boolean
  | t => .object (xaC t)
def xtys (ac : Nat → ClassId) : List (ClassId × FieldType) := (List.range 7).map (fun t => (ac t, xty t))
theorem xtys_at {ac : Nat → ClassId} {t : Nat} (h : t < 7) : (xtys ac)[t]? = some (ac t, xty t) := by
  simp [xtys, h]
def xtr (ac : Nat → ClassId) (e : xE) : va_E := match e with
  | .inl (t, n, .inl f) => .inl (ac t, n, .inl f)
  | .inl (t, n, .inr (.inl f)) => .inl (ac t, n, .inr (.inl f))
  | .inl (t, n, .inr (.inr f)) => .inl (ac t, n, .inr (.inr (.inr (.inr f))))
  | .inr (c, fs) => .inr (c, fs.map xval)
def xjunk : xE := .inr (1000, [])
def xWs (ac : Nat → ClassId) (N0 : Nat) (M : xM) : va_W := va_pl (List.range' N0 (M.1 - N0)) (fun a => xtr ac (M.2.2 a))
/-- what lies below: ArrayList's empty row, and the script -/
def xFo (T0 b L : Nat) (xs : Nat → Int32) (a : Nat) : xE := if a = T0 then .inl (3, 0, .inr (.inr fun _ => none)) else if a = b then .inl (9, L, .inl xs) else xjunk
def xtOk (e : xE) : Prop := match e with
  | .inl (t, _, _) => t < 7
  | .inr _ => True
def xRep (D : va_G) (ac : Nat → ClassId) (N0 : Nat) (F : Nat → xE) (M : xM) (H : Heap) : Prop :=
  H.size = M.1 ∧ N0 ≤ M.1 ∧ va_P D xcl (xWs ac N0 M) H ∧ (∀ a, a < N0 → M.2.2 a = F a) ∧ (∀ a, M.1 ≤ a → M.2.2 a = xjunk) ∧ ∀ a, N0 ≤ a → xtOk (M.2.2 a)
abbrev xAf (N0 : Nat) : Nat → Prop := fun q => N0 ≤ q
theorem xWs_D {ac : Nat → ClassId} {N0 : Nat} {M : xM} : va_D (xAf N0) (xWs ac N0 M) := by
  have key : ∀ (k : Nat) (q : Nat × va_E), (xWs ac N0 M)[k]? = some q → q.1 = N0 + k := by
    intro k q h
    simp only [xWs, va_pl, List.getElem?_map] at h
    by_cases hk : k < M.1 - N0
    · rw [List.getElem?_range' hk] at h
      cases h
      simp
    · rw [List.getElem?_eq_none (by simp; omega)] at h
      cases h
  refine ⟨fun i j p q hi hj h => ?_, fun k q h => ?_⟩
  · have h1 := key i p hi
    have h2 := key j q hj
    omega
  · have h1 := key k q h
    show N0 ≤ q.1
    omega
theorem xWs_at {ac : Nat → ClassId} {N0 a : Nat} {M : xM} (h0 : N0 ≤ a) (h1 : a < M.1) : ∃ k : Nat, (xWs ac N0 M)[k]? = some (a, xtr ac (M.2.2 a)) := by
  have hm : a ∈ List.range' N0 (M.1 - N0) := by
    rw [List.mem_range'_1]
    omega
  obtain ⟨k, hk⟩ := va_pl_get (X := []) (f := fun a => xtr ac (M.2.2 a)) hm
  exact ⟨k, hk⟩
theorem xWs_set {ac : Nat → ClassId} {N0 a k : Nat} {M : xM} {e : xE} (h0 : N0 ≤ a) (h1 : a < M.1) (hk : (xWs ac N0 M)[k]? = some (a, xtr ac (M.2.2 a))) : (xWs ac N0 M).set k (a, xtr ac e) = xWs ac N0 (xset M a e) := by
  have hm : a ∈ List.range' N0 (M.1 - N0) := by
    rw [List.mem_range'_1]
    omega
  have hD : va_D (xAf N0) ([] ++ va_pl (List.range' N0 (M.1 - N0)) (fun a => xtr ac (M.2.2 a))) := xWs_D
  have hs := va_pl_set (X := []) (e := xtr ac e) hD hm hk
  rw [List.nil_append, List.nil_append] at hs
  show (va_pl _ _).set k _ = _
  rw [hs]
  show va_pl _ _ = va_pl _ _
  congr 1
  funext q
  show va_up _ _ _ _ = xtr ac (va_up _ _ _ _)
  by_cases hq : q = a
  · subst hq
    rw [va_up_self, va_up_self]
  · rw [va_up_ne _ _ hq, va_up_ne _ _ hq]
theorem xWs_push {ac : Nat → ClassId} {N0 : Nat} {M : xM} {e : xE} {n : Nat} (h0 : N0 ≤ M.1) : xWs ac N0 (M.1 + 1, n, va_up M.2.2 M.1 e) = xWs ac N0 M ++ [(M.1, xtr ac e)] := by
  have hn : M.1 ∉ List.range' N0 (M.1 - N0) := by
    rw [List.mem_range'_1]
    omega
  have h := va_pl_push (f := fun a => xtr ac (M.2.2 a)) (e := xtr ac e) hn
  show va_pl (List.range' N0 (M.1 + 1 - N0)) _ = va_pl _ _ ++ _
  rw [h, show M.1 + 1 - N0 = (M.1 - N0) + 1 by omega, List.range'_concat, show N0 + 1 * (M.1 - N0) = M.1 by omega]
  congr 1
  funext q
  show xtr ac (va_up _ _ _ _) = va_up _ _ _ _
  by_cases hq : q = M.1
  · subst hq
    rw [va_up_self, va_up_self]
  · rw [va_up_ne _ _ hq, va_up_ne _ _ hq]
section XREP
variable {D : va_G} {ac : Nat → ClassId} {N0 T0 b L : Nat} {xs : Nat → Int32} {M : xM} {H : Heap}
theorem xFo_obj {a c : Nat} {fs : List xV} (h : xFo T0 b L xs a = .inr (c, fs)) : c = 1000 := by
  unfold xFo at h
  split at h
  · cases h
  · split at h
    · cases h
    · cases h
      rfl
/-- an object's cell is one of ours -/
theorem xRep.own (hR : xRep D ac N0 (xFo T0 b L xs) M H) {a c : Nat} {fs : List xV} (he : M.2.2 a = .inr (c, fs)) (hc : c < 14) : N0 ≤ a ∧ a < M.1 := by
  obtain ⟨-, -, -, h4, h5, -⟩ := hR
  constructor
  · rcases Nat.lt_or_ge a N0 with h | h
    · have h1 := h4 a h
      rw [he] at h1
      have := xFo_obj h1.symm
      omega
    · exact h
  · rcases Nat.lt_or_ge a M.1 with h | h
    · exact h
    · have h1 := h5 a h
      rw [he] at h1
      cases h1
      omega
/-- an array of ours: of a type that is no script's, with a place in it -/
theorem xRep.ownA (hR : xRep D ac N0 (xFo T0 b L xs) M H) {a t n : Nat} {x : xA} (he : M.2.2 a = .inl (t, n, x)) (ht : t ≠ 9) (hn : 0 < n) : N0 ≤ a ∧ a < M.1 := by
  obtain ⟨-, -, -, h4, h5, -⟩ := hR
  constructor
  · rcases Nat.lt_or_ge a N0 with h | h
    · have h1 := h4 a h
      rw [he] at h1
      unfold xFo at h1
      split at h1
      · cases h1
        omega
      · split at h1
        · cases h1
          omega
        · cases h1
    · exact h
  · rcases Nat.lt_or_ge a M.1 with h | h
    · exact h
    · have h1 := h5 a h
      rw [he] at h1
      cases h1
theorem xRep.arr (hR : xRep D ac N0 (xFo T0 b L xs) M H) {a t n : Nat} {x : xA} (he : M.2.2 a = .inl (t, n, x)) : (N0 ≤ a ∧ a < M.1 ∧ t < 7) ∨ (a < N0 ∧ a = T0 ∧ t = 3 ∧ n = 0 ∧ x = .inr (.inr fun _ => none)) ∨ (a < N0 ∧ a = b ∧ t = 9 ∧ n = L ∧ x = .inl xs) := by
  obtain ⟨-, -, -, h4, h5, h6⟩ := hR
  rcases Nat.lt_or_ge a N0 with h | h
  · have h1 := h4 a h
    rw [he] at h1
    unfold xFo at h1
    split at h1
    · cases h1
      exact Or.inr (Or.inl ⟨h, ‹a = T0›, rfl, rfl, rfl⟩)
    · split at h1
      · cases h1
        exact Or.inr (Or.inr ⟨h, ‹a = b›, rfl, rfl, rfl⟩)
      · cases h1
  · refine Or.inl ⟨h, ?_, ?_⟩
    · rcases Nat.lt_or_ge a M.1 with h2 | h2
      · exact h2
      · have h1 := h5 a h2
        rw [he] at h1
        cases h1
    · have := h6 a h
      rw [he] at this
      exact this
end XREP
/-- the context of a state: what the tables say that no good word says; the cells below -/
def xForR (N0 T0 b L : Nat) (xs : Nat → Int32) (s : State) (H : Heap) : Prop :=
  (T0 < N0 ∧ ∃ cell : Cell, H[T0]? = some cell ∧ s.isArrayOf cell (.object "java/lang/Object") ∧ cell.slots.size.toInt32 = 0) ∧ b < N0 ∧ va_X b L xs s H
def xCx (D : va_G) (ac : Nat → ClassId) (N0 T0 MI b L : Nat) (xs : Nat → Int32) (s : State) : Prop :=
  N0 ≤ s.heap.size ∧ va_K D xcl (xtys ac) s ∧ (∀ q ∈ xML, q.2.2.2 = 3 → va_Nw (.methodLinkNest (xcn q.1) q.2.1 (xname q.2.2.1) "RangeHouse") s) ∧ (∀ k, k < 14 → va_Nw (.castable (xcn k) "java/lang/Object") s) ∧ (∀ t, xtR t = true → va_AO (xaC t) s) ∧ va_Dc s ∧ va_Mi "[Ljava/lang/Object;" MI s ∧ va_Z "java/util/ArrayList" "DEFAULTCAPACITY_EMPTY_ELEMENTDATA" "[Ljava/lang/Object;" (.ref T0) (xAf N0) s s.heap ∧ xForR N0 T0 b L xs s s.heap
theorem xForR.go {N0 T0 b L : Nat} {xs : Nat → Int32} {s U : State} {H H1 : Heap} (h : xForR N0 T0 b L xs s H) (hW : s.vm.Alike U.vm) (hk : ∀ q : Nat, q < N0 → H1[q]? = H[q]?) : xForR N0 T0 b L xs U H1 := by
  obtain ⟨⟨h1, cell, h2, h3, h4⟩, h5, scr, g1, g2, g3, g4, g5⟩ := h
  exact ⟨⟨h1, cell, by rw [hk _ h1]; exact h2, State.isArrayOf_alike hW h3, h4⟩, h5, scr, by rw [hk _ h5]; exact g1, State.isArrayOf_alike hW g2, g3, g4, g5⟩
theorem xCx.go {D : va_G} {ac : Nat → ClassId} {N0 T0 MI b L : Nat} {xs : Nat → Int32} {s U : State} (h : xCx D ac N0 T0 MI b L xs s) (hW : s.WarmedH U.vm) (hz : s.heap.size ≤ U.heap.size) (hk : ∀ q : Nat, q < s.heap.size → ¬ N0 ≤ q → U.heap[q]? = s.heap[q]?) : xCx D ac N0 T0 MI b L xs U := by
  obtain ⟨h0, h1, h2, h3, h4, h5, h6, h7, h8⟩ := h
  refine ⟨Nat.le_trans h0 hz, h1.moved hW.alike, fun q hq h => va_Nw.warmM hW (h2 q hq h), fun k hk => va_Nw.warmC hW (h3 k hk), fun t ht => (h4 t ht).moved hW.alike, h5.moved hW.alike, h6.moved hW.alike, ?_, h8.go hW.alike (fun q hq => hk q (by omega) (by omega))⟩
  exact (h7.moved hW.alike).kept (fun q a c => hk q a c)
