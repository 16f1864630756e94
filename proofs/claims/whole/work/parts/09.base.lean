/-! SOUNDNESS, its base: what a step of the abstract machine gives of the machine's walk -/
theorem xcat_val (v : xV) : (xval v).category = xcat v := by
  rcases v with x | x | (_ | r) <;> rfl
theorem xcats_sum (st : List xV) : ((st.map xval).map fun v => v.category).sum = xcats st := by
  unfold xcats
  rw [List.map_map]
  congr 1
  apply List.map_congr_left
  intro v _
  exact xcat_val v
theorem xp1I_some {β : Type} {st : List xV} {k : Int32 → List xV → Option β} {v : β} (h : xp1I st k = some v) : ∃ x r, st = vi x :: r ∧ k x r = some v := by
  unfold xp1I at h
  split at h
  · exact ⟨_, _, rfl, h⟩
  · cases h
theorem xp2I_some {β : Type} {st : List xV} {k : Int32 → Int32 → List xV → Option β} {v : β} (h : xp2I st k = some v) : ∃ x y r, st = vi y :: vi x :: r ∧ k x y r = some v := by
  unfold xp2I at h
  split at h
  · exact ⟨_, _, _, rfl, h⟩
  · cases h
theorem xp1L_some {β : Type} {st : List xV} {k : Int64 → List xV → Option β} {v : β} (h : xp1L st k = some v) : ∃ x r, st = vl x :: r ∧ k x r = some v := by
  unfold xp1L at h
  split at h
  · exact ⟨_, _, rfl, h⟩
  · cases h
theorem xp2L_some {β : Type} {st : List xV} {k : Int64 → Int64 → List xV → Option β} {v : β} (h : xp2L st k = some v) : ∃ x y r, st = vl y :: vl x :: r ∧ k x y r = some v := by
  unfold xp2L at h
  split at h
  · exact ⟨_, _, _, rfl, h⟩
  · cases h
theorem xp1R_some {β : Type} {st : List xV} {k : Option Nat → List xV → Option β} {v : β} (h : xp1R st k = some v) : ∃ x r, st = vr x :: r ∧ k x r = some v := by
  unfold xp1R at h
  split at h
  · exact ⟨_, _, rfl, h⟩
  · cases h
theorem xpA_some {β : Type} {st : List xV} {k : Option Nat → Int32 → List xV → Option β} {v : β} (h : xpA st k = some v) : ∃ a i r, st = vi i :: vr a :: r ∧ k a i r = some v := by
  unfold xpA at h
  split at h
  · exact ⟨_, _, _, rfl, h⟩
  · cases h
theorem xbind {α β : Type} {o : Option α} {f : α → Option β} {v : β} (h : o.bind f = some v) : ∃ a, o = some a ∧ f a = some v := by
  cases o with
  | none => cases h
  | some a => exact ⟨a, rfl, h⟩
theorem xcond {β : Type} {c : Bool} {x : Option β} {v : β} (h : (bif c then x else none) = some v) : c = true ∧ x = some v := by
  cases c with
  | false => cases h
  | true => exact ⟨rfl, h⟩
theorem xasI_some {o : Option xV} {x : Int32} (h : xasI o = some x) : o = some (vi x) := by
  unfold xasI at h
  split at h
  · cases h; rfl
  · cases h
theorem xasL_some {o : Option xV} {x : Int64} (h : xasL o = some x) : o = some (vl x) := by
  unfold xasL at h
  split at h
  · cases h; rfl
  · cases h
theorem xasR_some {o : Option xV} {x : Option Nat} (h : xasR o = some x) : o = some (vr x) := by
  unfold xasR at h
  split at h
  · cases h; rfl
  · cases h
/-- the locals as the kit has them -/
def xlvA : Nat → xL → List (Nat × Value)
  | _, [] => []
  | i, none :: r => xlvA (i + 1) r
  | i, some v :: r => (i, xval v) :: xlvA (i + 1) r
theorem xlvA_mem : ∀ (lv : xL) (i : Nat) (q : Nat × Value), q ∈ xlvA i lv ↔ ∃ j v, lv[j]? = some (some v) ∧ q = (i + j, xval v)
  | [], _, _ => by simp [xlvA]
  | none :: r, i, q => by
    rw [xlvA, xlvA_mem r (i + 1) q]
    constructor
    · rintro ⟨j, v, h, rfl⟩
      exact ⟨j + 1, v, by simpa using h, by rw [Nat.add_assoc, Nat.add_comm 1 j]⟩
    · rintro ⟨j, v, h, rfl⟩
      cases j with
      | zero => simp at h
      | succ j => exact ⟨j, v, by simpa using h, by rw [Nat.add_assoc, Nat.add_comm 1 j]⟩
  | some w :: r, i, q => by
    rw [xlvA, List.mem_cons, xlvA_mem r (i + 1) q]
    constructor
    · rintro (rfl | ⟨j, v, h, rfl⟩)
      · exact ⟨0, w, rfl, rfl⟩
      · exact ⟨j + 1, v, by simpa using h, by rw [Nat.add_assoc, Nat.add_comm 1 j]⟩
    · rintro ⟨j, v, h, rfl⟩
      cases j with
      | zero =>
        have h2 : w = v := by simpa using h
        subst h2
        exact Or.inl rfl
      | succ j => exact Or.inr ⟨j, v, by simpa using h, by rw [Nat.add_assoc, Nat.add_comm 1 j]⟩
abbrev xlv (lv : xL) : List (Nat × Value) := xlvA 0 lv
theorem xlv_mem {lv : xL} {q : Nat × Value} : q ∈ xlv lv ↔ ∃ j v, lv[j]? = some (some v) ∧ q = (j, xval v) := by
  rw [xlvA_mem]
  simp
theorem xlk_get {lv : xL} {i : Nat} {v : xV} (h : xlk lv i = some v) : lv[i]? = some (some v) := by
  unfold xlk at h
  split at h
  · cases h
    assumption
  · cases h
theorem xlk_mem {lv : xL} {i : Nat} {v : xV} (h : xlk lv i = some v) : (i, xval v) ∈ xlv lv := xlv_mem.mpr ⟨i, v, xlk_get h, rfl⟩
theorem xlk_at {ls : Array Slot} {nL : Nat} {lv : xL} {i : Nat} {v : xV} (hl : lv_has ls nL (xlv lv)) (h : xlk lv i = some v) : ls[i]? = some (.val (xval v)) := hl.2.2 (i, xval v) (xlk_mem h)
theorem xinvAt_get : ∀ (lv : xL) (i j : Nat), (xinvAt lv i)[j]? = if j = i then (lv[j]?).map xinv else lv[j]?
  | [], i, j => by simp [xinvAt]
  | o :: r, 0, j => by
    cases j with
    | zero => simp [xinvAt]
    | succ j => simp [xinvAt]
  | o :: r, i + 1, j => by
    cases j with
    | zero => simp [xinvAt]
    | succ j =>
      have := xinvAt_get r i j
      simp only [xinvAt, List.getElem?_cons_succ, this]
      by_cases hj : j = i
      · subst hj
        simp
      · have : ¬ j + 1 = i + 1 := by omega
        simp [hj]
theorem xinv_some {o : Option xV} {w : xV} (h : xinv o = some w) : o = some w ∧ xcat w ≠ 2 := by
  unfold xinv at h
  split at h
  · cases h
  · rename_i h2
    subst h
    refine ⟨rfl, ?_⟩
    rcases w with x | x | x
    · intro e; cases e
    · exact absurd rfl (h2 x)
    · intro e; cases e
theorem xst1_get {lv : xL} {i : Nat} {v : xV} {j : Nat} {w : xV} (h : (xst1 lv i v)[j]? = some (some w)) : (j = i ∧ w = v) ∨ (j ≠ i ∧ lv[j]? = some (some w) ∧ ¬ (j + 1 = i ∧ xcat w = 2)) := by
  unfold xst1 at h
  cases i with
  | zero =>
    dsimp only at h
    rw [List.getElem?_set] at h
    split at h
    · rename_i e
      subst e
      split at h
      · have : v = w := by simpa using h
        exact Or.inl ⟨rfl, this.symm⟩
      · cases h
    · rename_i e
      exact Or.inr ⟨fun q => e q.symm, h, fun q => by omega⟩
  | succ i =>
    dsimp only at h
    rw [List.getElem?_set] at h
    split at h
    · rename_i e
      subst e
      split at h
      · have : v = w := by simpa using h
        exact Or.inl ⟨rfl, this.symm⟩
      · cases h
    · rename_i e
      rw [xinvAt_get] at h
      split at h
      · rename_i e2
        subst e2
        cases ho : lv[j]? with
        | none => rw [ho] at h; cases h
        | some o =>
          rw [ho] at h
          have h3 := xinv_some (Option.some.inj h)
          exact Or.inr ⟨by omega, by rw [h3.1], fun q => h3.2 q.2⟩
      · exact Or.inr ⟨fun q => e q.symm, h, fun q => by omega⟩
/-- from the kit's locals behind a store to ours -/
theorem xst1_has {ls : Array Slot} {nL : Nat} {lv : xL} {i : Nat} {v : xV} (h : lv_has ls nL ((i, xval v) :: (xlv lv).filter (fun q => !(q.1 == i) && !(q.1 + 1 == i && q.2.category == 2)))) : lv_has ls nL (xlv (xst1 lv i v)) := by
  refine ⟨h.1, h.2.1, fun q hq => ?_⟩
  obtain ⟨j, w, hj, rfl⟩ := xlv_mem.mp hq
  rcases xst1_get hj with ⟨rfl, rfl⟩ | ⟨h1, h2, h3⟩
  · exact h.2.2 _ List.mem_cons_self
  · refine h.2.2 _ (List.mem_cons_of_mem _ (List.mem_filter.mpr ⟨xlv_mem.mpr ⟨j, w, h2, rfl⟩, ?_⟩))
    simp only [xcat_val, Bool.and_eq_true, Bool.not_eq_true', beq_eq_false_iff_ne, ne_eq, Bool.and_eq_false_iff]
    refine ⟨h1, ?_⟩
    by_cases h4 : j + 1 = i
    · exact Or.inr (fun h5 => h3 ⟨h4, h5⟩)
    · exact Or.inl h4
theorem xst2_has {ls : Array Slot} {nL : Nat} {lv : xL} {i : Nat} {v : xV} (h : lv_has ls nL ((i, xval v) :: (xlv lv).filter (fun q => !(q.1 == i) && (!(q.1 == i + 1) && !(q.1 + 1 == i && q.2.category == 2))))) : lv_has ls nL (xlv (xst2 lv i v)) := by
  refine ⟨h.1, h.2.1, fun q hq => ?_⟩
  obtain ⟨j, w, hj, rfl⟩ := xlv_mem.mp hq
  unfold xst2 at hj
  rw [List.getElem?_set] at hj
  split at hj
  · split at hj <;> simp at hj
  · rename_i e
    rcases xst1_get hj with ⟨rfl, rfl⟩ | ⟨h1, h2, h3⟩
    · exact h.2.2 _ List.mem_cons_self
    · refine h.2.2 _ (List.mem_cons_of_mem _ (List.mem_filter.mpr ⟨xlv_mem.mpr ⟨j, w, h2, rfl⟩, ?_⟩))
      simp only [xcat_val, Bool.and_eq_true, Bool.not_eq_true', beq_eq_false_iff_ne, ne_eq, Bool.and_eq_false_iff]
      refine ⟨h1, fun q => e q.symm, ?_⟩
      by_cases h4 : j + 1 = i
      · exact Or.inr (fun h5 => h3 ⟨h4, h5⟩)
      · exact Or.inl h4
theorem xfill_mem : ∀ (As : List xV) (i j : Nat) (v : xV), (xfill As)[j]? = some (some v) → (i + j, xval v) ∈ lv_args i (As.map xval)
  | [], _, _, _, h => by simp [xfill] at h
  | a :: vs, i, j, v, h => by
    show _ ∈ (i, xval a) :: lv_args (if (xval a).category = 2 then i + 2 else i + 1) (vs.map xval)
    rcases a with x | x | x
    · cases j with
      | zero =>
        have : vi x = v := by simpa [xfill] using h
        subst this
        exact List.mem_cons_self
      | succ j =>
        have h2 : (xfill vs)[j]? = some (some v) := by simpa [xfill] using h
        have := xfill_mem vs (i + 1) j v h2
        rw [show i + 1 + j = i + (j + 1) by omega] at this
        exact List.mem_cons_of_mem _ this
    · cases j with
      | zero =>
        have : vl x = v := by simpa [xfill] using h
        subst this
        exact List.mem_cons_self
      | succ j =>
        cases j with
        | zero => simp [xfill] at h
        | succ j =>
          have h2 : (xfill vs)[j]? = some (some v) := by simpa [xfill] using h
          have := xfill_mem vs (i + 2) j v h2
          rw [show i + 2 + j = i + (j + 1 + 1) by omega] at this
          exact List.mem_cons_of_mem _ this
    · cases j with
      | zero =>
        have : vr x = v := by simpa [xfill] using h
        subst this
        exact List.mem_cons_self
      | succ j =>
        have h2 : (xfill vs)[j]? = some (some v) := by simpa [xfill] using h
        have := xfill_mem vs (i + 1) j v h2
        rw [show i + 1 + j = i + (j + 1) by omega] at this
        have e : (xval (Sum.inr (Sum.inr x))).category = 1 := by rw [xcat_val]; rfl
        rw [e]
        exact List.mem_cons_of_mem _ this
theorem xlocs_has {ls : Array Slot} {nL n : Nat} {As : List xV} (h : lv_has ls nL (lv_args 0 (As.map xval))) : lv_has ls nL (xlv (xlocs n As)) := by
  refine ⟨h.1, h.2.1, fun q hq => ?_⟩
  obtain ⟨j, w, hj, rfl⟩ := xlv_mem.mp hq
  unfold xlocs at hj
  by_cases hl : j < (xfill As).length
  · rw [List.getElem?_append_left hl] at hj
    have := xfill_mem As 0 j w hj
    rw [Nat.zero_add] at this
    exact h.2.2 _ this
  · rw [List.getElem?_append_right (by omega), List.getElem?_replicate] at hj
    split at hj <;> simp at hj
theorem xcats_sl (As : List xV) : (lg_sl (As.map xval)).length = xcats As := by
  induction As with
  | nil => rfl
  | cons v vs ih =>
    have h1 : (lg_sl ((v :: vs).map xval)).length = (if (xval v).category = 2 then 2 else 1) + (lg_sl (vs.map xval)).length := by
      simp only [lg_sl, List.map_cons, List.flatMap_cons, List.length_append]
      congr 1
      split <;> rfl
    rw [h1, ih]
    have h2 : xcats (v :: vs) = xcat v + xcats vs := by simp [xcats]
    rw [h2, xcat_val]
    rcases v with x | x | r <;> rfl
theorem xin_in {i : Int32} {n : Nat} (h : xin i n = true) : vp_in i n := by
  unfold xin at h
  simp only [Bool.and_eq_true, Bool.not_eq_true', decide_eq_false_iff_not] at h
  intro h1
  rcases h1 with h1 | h1
  · exact h.1 h1
  · have := Nat.le_of_ble_eq_true (show Nat.ble (i.toNatClampNeg + 1) n = true from h.2)
    omega
theorem xin_pos {i : Int32} {n : Nat} (h : xin i n = true) : 0 < n := by
  unfold xin at h
  simp only [Bool.and_eq_true] at h
  have := Nat.le_of_ble_eq_true (show Nat.ble (i.toNatClampNeg + 1) n = true from h.2)
  omega
/-- the frame of method mi: what holds at every point of it -/
def xFr (p : Program) (R : Room) (s : State) (m : MethodId) (args : Array Value) (meth : Method) (c : Code) (D : va_G) (ac : Nat → ClassId) (N0 T0 MI bS LS : Nat) (xs : Nat → Int32) (mi : Nat) : Prop :=
  p.tables.exec = Jvm.exec ∧ c.code = xbytes mi ∧ c.maxLocals = (xnums mi).1 ∧ s.vm.findClass (xcn (xown mi)) = some m.cls ∧ (∀ w ∈ lw_good, w.before args s = true) ∧ xCx D ac N0 T0 MI bS LS xs s ∧ ((xname mi).name = "<init>" → meth.name = "<init>") ∧ (xnums mi).2.2.1 ≤ R.frames ∧ (xnums mi).2.2.2 ≤ R.locals
/-- from here on the machine comes to Q -/
def xWd (p : Program) (l : Launch) (e : Env) (R : Room) (s : State) (m : MethodId) (args : Array Value) (below : List Frame) (meth : Method) (c : Code) (Q : State → Prop) (D : va_G) (ac : Nat → ClassId) (N0 T0 bS LS : Nat) (xs : Nat → Int32) (mi : Nat) (M0 : xM) (pc : Nat) (lv : xL) (st : List xV) (M : xM) : Prop :=
  ∀ (H : Heap) (locs : List Loc) (ls : Array Slot), lv_has ls (xnums mi).1 (xlv lv) → xRep D ac N0 (xFo T0 bS LS xs) M H → va_S (xAf N0) s.heap H locs → M0.1 ≤ M.1 → M0.2.1 ≤ M.2.1 → W p l e R s m args below meth c H locs (M.1 - M0.1) (M.2.1 - M0.2.1) Q (F0 m pc ls (st.map xval))
def xws (a : Nat) : List Cond := Cond.code (xname a) (xbytes a) (xnums a).1 (xret a) :: lw_good
def xrm (a mc ms : Nat) : Room := { frames := (xnums a).2.2.1, cells := mc, slots := ms, locals := (xnums a).2.2.2 }
def xPc (D : va_G) (ac : Nat → ClassId) (N0 T0 MI bS LS : Nat) (xs : Nat → Int32) (As : List xV) (M : xM) : Array Value → State → Prop := va_Pc (As.map xval) (fun U => xRep D ac N0 (xFo T0 bS LS xs) M U.heap ∧ xCx D ac N0 T0 MI bS LS xs U)
def xQc (D : va_G) (ac : Nat → ClassId) (N0 T0 bS LS : Nat) (xs : Nat → Int32) (v : Option xV) (M1 : xM) : Array Value → State → Outcome → State → Prop := fun _ st oc t => oc = .returned (v.map xval) ∧ xRep D ac N0 (xFo T0 bS LS xs) M1 t.heap ∧ va_F (xAf N0) st t
def xMet (l : Launch) (D : va_G) (ac : Nat → ClassId) (N0 T0 MI bS LS : Nat) (xs : Nat → Int32) (a : Nat) (As : List xV) (M : xM) (v : Option xV) (M1 : xM) : Prop :=
  Met l (xname a) (xws a) (xrm a (M1.1 - M.1) (M1.2.1 - M.2.1)) (xPc D ac N0 T0 MI bS LS xs As M) (xQc D ac N0 T0 bS LS xs v M1) (M1.1 - M.1) (M1.2.1 - M.2.1) (xAf N0)
/-- runs only make more -/
def xMono (K : xK) : Prop := ∀ mi pc lv st M v M', K mi pc lv st M = some (v, M') → M.1 ≤ M'.1 ∧ M.2.1 ≤ M'.2.1
def xCalls (K : xK) (l : Launch) (D : va_G) (ac : Nat → ClassId) (N0 T0 MI bS LS : Nat) (xs : Nat → Int32) : Prop :=
  ∀ a As M v M1, xcodeIn a → plainName (xname a).cls = true → (xname a).cls = xcn (xown a) → xcats As ≤ (xnums a).1 → a < 223 → K a 0 (xlocs (xnums a).1 As) [] M = some (v, M1) → xMet l D ac N0 T0 MI bS LS xs a As M v M1
section XCALL
variable {p : Program} {l : Launch} {e : Env} {R : Room} {s : State} {m : MethodId} {args : Array Value} {below : List Frame} {meth : Method} {c : Code} {H : Heap} {locs : List Loc} {cells slots : Nat} {Q : State → Prop}
variable {pc : Nat} {ls : Array Slot} {rest st0 : List Value} {A0 : Nat → Prop} {mc ms : Nat}
theorem xcall_go {P : Heap → Prop} {w : Option Value} {Qa : State → Outcome → State → Prop} (hQ : ∀ st oc t, Qa st oc t → oc = .returned w ∧ P t.heap ∧ va_F A0 st t) (hr : va_Run p l e R s m args below meth c H locs cells slots mc ms (F0 m pc ls st0) rest Qa A0) (hS : va_S A0 s.heap H locs)
    (kk : ∀ (H1 : Heap) (locs1 : List Loc), P H1 → va_S A0 s.heap H1 locs1 → W p l e R s m args below meth c H1 locs1 (cells + mc) (slots + ms) Q (F0 m (pc + 3) ls (w.toList ++ rest))) : W p l e R s m args below meth c H locs cells slots Q (F0 m pc ls st0) := by
  intro T hT X
  obtain ⟨v, st₀, t, T', L, h0, X', hL, e1, e2, hq, st⟩ := hr T hT X
  obtain ⟨hv, hp, hz, hk⟩ := hQ _ _ _ hq
  cases hv
  rw [h0] at hz hk
  obtain ⟨t2, a1, b1⟩ := kk T'.heap (locs ++ L) (by rw [e1]; exact hp)
    ⟨Nat.le_trans hS.1 (by rw [e1]; exact hz), fun q h1 h2 => by rw [e1, hk q (Nat.lt_of_lt_of_le h1 hS.1) h2]; exact hS.2.1 q h1 h2, fun q hq => by
      rcases List.mem_append.mp hq with h | h
      · exact hS.2.2 q h
      · exact hL q h⟩ T' rfl X'
  exact ⟨t2, st t2 a1, b1⟩
end XCALL
