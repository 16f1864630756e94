/-! THE REFERENCE'S MEMORY: one object of 91 fields at B, its 82 arrays behind it; its contents: ints (and booleans) by field and place, longs likewise -/
abbrev xrho : Type := (Nat → Nat → Int32) × (Nat → Nat → Int64)
/-- of each field: its kind (0 ints, 1 longs, 2 booleans, 3 an int, 4 a long), its length, its array's place -/
def rT : List (Nat × Nat × Nat) := [(2, 6, 0), (0, 7, 1), (2, 40, 2), (0, 40, 3), (0, 40, 4), (0, 40, 5), (0, 40, 6), (0, 40, 7), (0, 40, 8), (0, 160, 9), (0, 40, 10), (0, 40, 11), (3, 0, 0), (3, 0, 0), (3, 0, 0), (0, 240, 12), (0, 240, 13), (0, 240, 14), (0, 240, 15), (0, 240, 16), (0, 14400, 17), (0, 240, 18), (0, 240, 19), (0, 240, 20), (0, 240, 21), (0, 240, 22), (0, 120000, 23), (1, 14400, 24), (0, 240, 25), (0, 240, 26), (0, 240, 27), (0, 240, 28), (2, 240, 29), (2, 240, 30), (0, 1440, 31), (0, 5760, 32), (0, 5760, 33), (1, 5760, 34), (0, 1200, 35), (0, 1200, 36), (0, 1200, 37), (0, 1200, 38), (0, 1200, 39), (0, 1200, 40), (3, 0, 0), (3, 0, 0), (0, 6, 41), (0, 360, 42), (0, 360, 43), (0, 360, 44), (0, 360, 45), (1, 360, 46), (1, 360, 47), (1, 360, 48), (2, 360, 49), (0, 60000, 50), (0, 60000, 51), (0, 60000, 52), (0, 60000, 53), (0, 60000, 54), (0, 1200, 55), (0, 1200, 56), (0, 1200, 57), (0, 1200, 58), (0, 1200, 59), (0, 1200, 60), (0, 1200, 61), (0, 1200, 62), (0, 1200, 63), (0, 1200, 64), (0, 1200, 65), (0, 1200, 66), (0, 1200, 67), (0, 1200, 68), (0, 3600, 69), (2, 1200, 70), (2, 3600, 71), (1, 3600, 72), (0, 7200, 73), (0, 28800, 74), (0, 28800, 75), (1, 28800, 76), (3, 0, 0), (0, 4000, 77), (0, 4000, 78), (0, 4000, 79), (0, 4000, 80), (0, 4000, 81), (3, 0, 0), (4, 0, 0), (3, 0, 0)]
def rS : List Nat := [0, 1, 2, 3, 4, 5, 6, 7, 8, 9, 10, 11, 15, 16, 17, 18, 19, 20, 21, 22, 23, 24, 25, 26, 27, 28, 29, 30, 31, 32, 33, 34, 35, 36, 37, 38, 39, 40, 41, 42, 43, 46, 47, 48, 49, 50, 51, 52, 53, 54, 55, 56, 57, 58, 59, 60, 61, 62, 63, 64, 65, 66, 67, 68, 69, 70, 71, 72, 73, 74, 75, 76, 77, 78, 79, 80, 81, 83, 84, 85, 86, 87]
def rinf (k : Nat) : Nat × Nat × Nat := rT.getD k (9, 0, 0)
def rslot (j : Nat) : Nat := rS.getD j 1000
def rfv (B : Nat) (q : xrho) (k : Nat) : xV := match (rinf k).1 with
  | 3 => vi (q.1 k 0)
  | 4 => vl (q.2 k 0)
  | _ => vr (some (B + 1 + (rinf k).2.2))
def rfields (B : Nat) (q : xrho) : List xV := (List.range 91).map (rfv B q)
def rarr (q : xrho) (k : Nat) : xE := match (rinf k).1 with
  | 1 => .inl (1, (rinf k).2.1, .inr (.inl (q.2 k)))
  | t => .inl (t, (rinf k).2.1, .inl (q.1 k))
def rcell (B : Nat) (q : xrho) (j : Nat) : xE := match j with
  | 0 => .inr (12, rfields B q)
  | j + 1 => rarr q (rslot j)
def rput (B : Nat) (q : xrho) (M : xM) : xM := (M.1, M.2.1, fun a => if B ≤ a ∧ a < B + 83 then rcell B q (a - B) else M.2.2 a)
def rup (q : xrho) (k i : Nat) (x : Int32) : xrho := (va_up q.1 k (upd (q.1 k) i x), q.2)
def rupL (q : xrho) (k i : Nat) (x : Int64) : xrho := (q.1, va_up q.2 k (vp_updL (q.2 k) i x))
theorem r_tab : (List.range 82).all (fun j => decide (rslot j < 91) && (Nat.blt (rinf (rslot j)).1 3 && Nat.beq (rinf (rslot j)).2.2 j)) = true := by decide +kernel
theorem r_slot {j : Nat} (h : j < 82) : rslot j < 91 ∧ (rinf (rslot j)).1 < 3 ∧ (rinf (rslot j)).2.2 = j := by
  have h1 := List.all_eq_true.mp r_tab j (List.mem_range.mpr h)
  simp only [Bool.and_eq_true, decide_eq_true_eq] at h1
  exact ⟨h1.1, Nat.le_of_ble_eq_true h1.2.1, Nat.eq_of_beq_eq_true h1.2.2⟩
theorem r_at (B : Nat) (q : xrho) (M : xM) {j : Nat} (h : j < 83) : (rput B q M).2.2 (B + j) = rcell B q j := by
  show (if B ≤ B + j ∧ B + j < B + 83 then _ else _) = _
  rw [if_pos ⟨by omega, by omega⟩, Nat.add_sub_cancel_left]
theorem r_out (B : Nat) (q : xrho) (M : xM) {a : Nat} (h : a < B ∨ B + 83 ≤ a) : (rput B q M).2.2 a = M.2.2 a := by
  show (if B ≤ a ∧ a < B + 83 then _ else _) = _
  rw [if_neg (by omega)]
theorem r_get (B : Nat) (q : xrho) (M : xM) {k : Nat} (h : k < 91) : xgetV (rput B q M) B 12 k = some (rfv B q k) := by
  have h1 := r_at B q M (j := 0) (by decide)
  rw [Nat.add_zero] at h1
  unfold xgetV
  rw [h1]
  simp [rcell, rfields, h]
/-- two memories of the reference are one, if their cells are -/
theorem r_ext {B : Nat} {q q' : xrho} {M : xM} {a : Nat} {e : xE} (ha : ∃ j, j < 83 ∧ a = B + j ∧ rcell B q' j = e) (ho : ∀ j, j < 83 → B + j ≠ a → rcell B q' j = rcell B q j) : xset (rput B q M) a e = rput B q' M := by
  obtain ⟨j0, hj0, rfl, he⟩ := ha
  show (M.1, M.2.1, va_up _ _ _) = (M.1, M.2.1, _)
  congr 2
  funext x
  by_cases hx : x = B + j0
  · subst hx
    rw [va_up_self]
    show e = if B ≤ B + j0 ∧ B + j0 < B + 83 then _ else _
    rw [if_pos ⟨by omega, by omega⟩, Nat.add_sub_cancel_left, he]
  · rw [va_up_ne _ _ hx]
    show (if B ≤ x ∧ x < B + 83 then _ else _) = if B ≤ x ∧ x < B + 83 then _ else _
    split
    · rename_i hc
      have e1 : B + (x - B) = x := by omega
      exact (ho (x - B) (by omega) (by rw [e1]; exact hx)).symm
    · rfl
theorem rarr_up {q : xrho} {k k' i : Nat} {x : Int32} (h : k' ≠ k) : rarr (rup q k i x) k' = rarr q k' := by
  unfold rarr rup
  dsimp only
  rw [va_up_ne _ _ h]
theorem rarr_upL {q : xrho} {k k' i : Nat} {x : Int64} (h : k' ≠ k) : rarr (rupL q k i x) k' = rarr q k' := by
  unfold rarr rupL
  dsimp only
  rw [va_up_ne _ _ h]
theorem rfv_up {B : Nat} {q : xrho} {k k' i : Nat} {x : Int32} (h : k' ≠ k ∨ (rinf k').1 ≠ 3) : rfv B (rup q k i x) k' = rfv B q k' := by
  unfold rfv rup
  dsimp only
  split
  · rename_i h3
    rcases h with h | h
    · rw [va_up_ne _ _ h]
    · exact absurd h3 h
  · rfl
  · rfl
theorem rfv_upL {B : Nat} {q : xrho} {k k' i : Nat} {x : Int64} (h : k' ≠ k ∨ (rinf k').1 ≠ 4) : rfv B (rupL q k i x) k' = rfv B q k' := by
  unfold rfv rupL
  dsimp only
  split
  · rfl
  · rename_i h3
    rcases h with h | h
    · rw [va_up_ne _ _ h]
    · exact absurd h3 h
  · rfl
theorem rcell_up {B : Nat} {q : xrho} {j0 i : Nat} {x : Int32} (h0 : j0 < 82) : ∀ j, j < 83 → j ≠ j0 + 1 → rcell B (rup q (rslot j0) i x) j = rcell B q j := by
  intro j hj hne
  obtain ⟨-, s2, s3⟩ := r_slot h0
  cases j with
  | zero =>
    show Sum.inr (12, rfields B _) = Sum.inr (12, rfields B _)
    congr 2
    apply List.map_congr_left
    intro k' _
    refine rfv_up ?_
    by_cases hk : k' = rslot j0
    · subst hk
      exact Or.inr (by omega)
    · exact Or.inl hk
  | succ j =>
    obtain ⟨-, -, t3⟩ := r_slot (j := j) (by omega)
    refine rarr_up (fun e => ?_)
    rw [e, s3] at t3
    omega
theorem rcell_upL {B : Nat} {q : xrho} {j0 i : Nat} {x : Int64} (h0 : j0 < 82) : ∀ j, j < 83 → j ≠ j0 + 1 → rcell B (rupL q (rslot j0) i x) j = rcell B q j := by
  intro j hj hne
  obtain ⟨-, s2, s3⟩ := r_slot h0
  cases j with
  | zero =>
    show Sum.inr (12, rfields B _) = Sum.inr (12, rfields B _)
    congr 2
    apply List.map_congr_left
    intro k' _
    refine rfv_upL ?_
    by_cases hk : k' = rslot j0
    · subst hk
      exact Or.inr (by omega)
    · exact Or.inl hk
  | succ j =>
    obtain ⟨-, -, t3⟩ := r_slot (j := j) (by omega)
    refine rarr_upL (fun e => ?_)
    rw [e, s3] at t3
    omega
theorem r_aI (B : Nat) (q : xrho) (M : xM) {j k n : Nat} (h : j < 82) (hk : rslot j = k) (ht : rinf k = (0, n, j)) (i : Int32) : xaI (rput B q M) (B + (j + 1)) i = bif xin i n then some (q.1 k i.toNatClampNeg) else none := by
  unfold xaI
  rw [r_at B q M (j := j + 1) (by omega)]
  show (match rarr q (rslot j) with
    | .inl (t, n, .inl f) => bif (Nat.beq t 0 || Nat.beq t 9) && xin i n then some (f i.toNatClampNeg) else none
    | _ => none) = _
  unfold rarr
  rw [hk, ht]
  rfl
theorem r_aZ (B : Nat) (q : xrho) (M : xM) {j k n : Nat} (h : j < 82) (hk : rslot j = k) (ht : rinf k = (2, n, j)) (i : Int32) : xaZ (rput B q M) (B + (j + 1)) i = bif xin i n then some (q.1 k i.toNatClampNeg) else none := by
  unfold xaZ
  rw [r_at B q M (j := j + 1) (by omega)]
  show (match rarr q (rslot j) with
    | .inl (t, n, .inl f) => bif Nat.beq t 2 && xin i n then some (f i.toNatClampNeg) else none
    | _ => none) = _
  unfold rarr
  rw [hk, ht]
  rfl
theorem r_aL (B : Nat) (q : xrho) (M : xM) {j k n : Nat} (h : j < 82) (hk : rslot j = k) (ht : rinf k = (1, n, j)) (i : Int32) : xaL (rput B q M) (B + (j + 1)) i = bif xin i n then some (q.2 k i.toNatClampNeg) else none := by
  unfold xaL
  rw [r_at B q M (j := j + 1) (by omega)]
  show (match rarr q (rslot j) with
    | .inl (t, n, .inr (.inl f)) => bif Nat.beq t 1 && xin i n then some (f i.toNatClampNeg) else none
    | _ => none) = _
  unfold rarr
  rw [hk, ht]
  rfl
theorem r_sI (B : Nat) (q : xrho) (M : xM) {j k n : Nat} (h : j < 82) (hk : rslot j = k) (ht : rinf k = (0, n, j)) (i x : Int32) : xsI (rput B q M) (B + (j + 1)) i x = bif xin i n then some (rput B (rup q k i.toNatClampNeg x) M) else none := by
  unfold xsI
  rw [r_at B q M (j := j + 1) (by omega)]
  have e : rcell B q (j + 1) = .inl (0, n, .inl (q.1 k)) := by
    show rarr q (rslot j) = _
    unfold rarr
    rw [hk, ht]
    rfl
  rw [e]
  show (bif xin i n then some (xset (rput B q M) (B + (j + 1)) (.inl (0, n, .inl (upd (q.1 k) i.toNatClampNeg x)))) else none) = _
  rw [r_ext (q' := rup q k i.toNatClampNeg x) ⟨j + 1, by omega, rfl, ?_⟩ (fun j' hj' hne => by rw [← hk]; exact rcell_up h j' hj' (by omega))]
  show rarr _ (rslot j) = _
  unfold rarr rup
  rw [hk, ht]
  dsimp only
  rw [va_up_self]
  rfl
theorem r_sZ (B : Nat) (q : xrho) (M : xM) {j k n : Nat} (h : j < 82) (hk : rslot j = k) (ht : rinf k = (2, n, j)) (i x : Int32) : xsZ (rput B q M) (B + (j + 1)) i x = bif xin i n && xbool x then some (rput B (rup q k i.toNatClampNeg x) M) else none := by
  unfold xsZ
  rw [r_at B q M (j := j + 1) (by omega)]
  have e : rcell B q (j + 1) = .inl (2, n, .inl (q.1 k)) := by
    show rarr q (rslot j) = _
    unfold rarr
    rw [hk, ht]
    rfl
  rw [e]
  show (bif xin i n && xbool x then some (xset (rput B q M) (B + (j + 1)) (.inl (2, n, .inl (upd (q.1 k) i.toNatClampNeg x)))) else none) = _
  rw [r_ext (q' := rup q k i.toNatClampNeg x) ⟨j + 1, by omega, rfl, ?_⟩ (fun j' hj' hne => by rw [← hk]; exact rcell_up h j' hj' (by omega))]
  show rarr _ (rslot j) = _
  unfold rarr rup
  rw [hk, ht]
  dsimp only
  rw [va_up_self]
  rfl
theorem r_sL (B : Nat) (q : xrho) (M : xM) {j k n : Nat} (h : j < 82) (hk : rslot j = k) (ht : rinf k = (1, n, j)) (i : Int32) (x : Int64) : xsL (rput B q M) (B + (j + 1)) i x = bif xin i n then some (rput B (rupL q k i.toNatClampNeg x) M) else none := by
  unfold xsL
  rw [r_at B q M (j := j + 1) (by omega)]
  have e : rcell B q (j + 1) = .inl (1, n, .inr (.inl (q.2 k))) := by
    show rarr q (rslot j) = _
    unfold rarr
    rw [hk, ht]
    rfl
  rw [e]
  show (bif xin i n then some (xset (rput B q M) (B + (j + 1)) (.inl (1, n, .inr (.inl (vp_updL (q.2 k) i.toNatClampNeg x))))) else none) = _
  rw [r_ext (q' := rupL q k i.toNatClampNeg x) ⟨j + 1, by omega, rfl, ?_⟩ (fun j' hj' hne => by rw [← hk]; exact rcell_upL h j' hj' (by omega))]
  show rarr _ (rslot j) = _
  unfold rarr rupL
  rw [hk, ht]
  dsimp only
  rw [va_up_self]
  rfl
theorem r_pI (B : Nat) (q : xrho) (M : xM) {k : Nat} (h : k < 91) (ht : (rinf k).1 = 3) (x : Int32) : xput (rput B q M) B 12 k (vi x) = some (rput B (rup q k 0 x) M) := by
  unfold xput
  have h1 := r_at B q M (j := 0) (by decide)
  rw [Nat.add_zero] at h1
  rw [h1]
  show (bif Nat.beq 12 12 && Nat.blt k (rfields B q).length then some (xset (rput B q M) B (.inr (12, (rfields B q).set k (vi x)))) else none) = _
  have hl : Nat.blt k (rfields B q).length = true := by
    simp only [rfields, List.length_map, List.length_range]
    exact Nat.ble_eq_true_of_le h
  rw [hl]
  show some (xset (rput B q M) B (.inr (12, (rfields B q).set k (vi x)))) = _
  rw [r_ext (q' := rup q k 0 x) ⟨0, by decide, by rw [Nat.add_zero], ?_⟩ (fun j' hj' hne => ?_)]
  · show Sum.inr (12, rfields B _) = Sum.inr (12, _)
    congr 2
    apply List.ext_getElem?
    intro z
    rw [List.getElem?_set]
    simp only [rfields, List.getElem?_map, List.length_map, List.length_range]
    by_cases hz : k = z
    · subst hz
      rw [if_pos rfl, if_pos h]
      simp only [List.getElem?_range h, Option.map_some]
      unfold rfv
      rw [ht]
      simp [rup, va_up_self, upd]
    · rw [if_neg hz]
      by_cases hz9 : z < 91
      · simp only [List.getElem?_range hz9, Option.map_some]
        rw [rfv_up (Or.inl (fun e => hz e.symm))]
      · simp [hz9]
  · cases j' with
    | zero => exact absurd (Nat.add_zero B) hne
    | succ j' =>
      obtain ⟨-, s2, -⟩ := r_slot (j := j') (by omega)
      exact rarr_up (fun e => by rw [e, ht] at s2; omega)
theorem r_pL (B : Nat) (q : xrho) (M : xM) {k : Nat} (h : k < 91) (ht : (rinf k).1 = 4) (x : Int64) : xput (rput B q M) B 12 k (vl x) = some (rput B (rupL q k 0 x) M) := by
  unfold xput
  have h1 := r_at B q M (j := 0) (by decide)
  rw [Nat.add_zero] at h1
  rw [h1]
  show (bif Nat.beq 12 12 && Nat.blt k (rfields B q).length then some (xset (rput B q M) B (.inr (12, (rfields B q).set k (vl x)))) else none) = _
  have hl : Nat.blt k (rfields B q).length = true := by
    simp only [rfields, List.length_map, List.length_range]
    exact Nat.ble_eq_true_of_le h
  rw [hl]
  show some (xset (rput B q M) B (.inr (12, (rfields B q).set k (vl x)))) = _
  rw [r_ext (q' := rupL q k 0 x) ⟨0, by decide, by rw [Nat.add_zero], ?_⟩ (fun j' hj' hne => ?_)]
  · show Sum.inr (12, rfields B _) = Sum.inr (12, _)
    congr 2
    apply List.ext_getElem?
    intro z
    rw [List.getElem?_set]
    simp only [rfields, List.getElem?_map, List.length_map, List.length_range]
    by_cases hz : k = z
    · subst hz
      rw [if_pos rfl, if_pos h]
      simp only [List.getElem?_range h, Option.map_some]
      unfold rfv
      rw [ht]
      simp [rupL, va_up_self, vp_updL]
    · rw [if_neg hz]
      by_cases hz9 : z < 91
      · simp only [List.getElem?_range hz9, Option.map_some]
        rw [rfv_upL (Or.inl (fun e => hz e.symm))]
      · simp [hz9]
  · cases j' with
    | zero => exact absurd (Nat.add_zero B) hne
    | succ j' =>
      obtain ⟨-, s2, -⟩ := r_slot (j := j') (by omega)
      exact rarr_upL (fun e => by rw [e, ht] at s2; omega)
theorem r_cls (B : Nat) (q : xrho) (M : xM) : xcls (rput B q M) B 12 = true := by
  unfold xcls
  have h1 := r_at B q M (j := 0) (by decide)
  rw [Nat.add_zero] at h1
  rw [h1]
  rfl
theorem rg_up (B : Nat) (q : xrho) (M : xM) : xgetR (rput B q M) B 12 0 = some (some (B + 1)) := by unfold xgetR; rw [r_get B q M (by decide)]; rfl
theorem ra_up (B : Nat) (q : xrho) (M : xM) (i : Int32) : xaZ (rput B q M) (B + 1) i = bif xin i 6 then some (q.1 0 i.toNatClampNeg) else none := r_aZ B q M (j := 0) (by decide) rfl rfl i
theorem rs_up (B : Nat) (q : xrho) (M : xM) (i : Int32) (x : Int32) : xsZ (rput B q M) (B + 1) i x = bif xin i 6 && xbool x then some (rput B (rup q 0 i.toNatClampNeg x) M) else none := r_sZ B q M (j := 0) (by decide) rfl rfl i x
theorem rg_refusals (B : Nat) (q : xrho) (M : xM) : xgetR (rput B q M) B 12 1 = some (some (B + 2)) := by unfold xgetR; rw [r_get B q M (by decide)]; rfl
theorem ra_refusals (B : Nat) (q : xrho) (M : xM) (i : Int32) : xaI (rput B q M) (B + 2) i = bif xin i 7 then some (q.1 1 i.toNatClampNeg) else none := r_aI B q M (j := 1) (by decide) rfl rfl i
theorem rs_refusals (B : Nat) (q : xrho) (M : xM) (i : Int32) (x : Int32) : xsI (rput B q M) (B + 2) i x = bif xin i 7 then some (rput B (rup q 1 i.toNatClampNeg x) M) else none := r_sI B q M (j := 1) (by decide) rfl rfl i x
theorem rg_has (B : Nat) (q : xrho) (M : xM) : xgetR (rput B q M) B 12 2 = some (some (B + 3)) := by unfold xgetR; rw [r_get B q M (by decide)]; rfl
theorem ra_has (B : Nat) (q : xrho) (M : xM) (i : Int32) : xaZ (rput B q M) (B + 3) i = bif xin i 40 then some (q.1 2 i.toNatClampNeg) else none := r_aZ B q M (j := 2) (by decide) rfl rfl i
theorem rs_has (B : Nat) (q : xrho) (M : xM) (i : Int32) (x : Int32) : xsZ (rput B q M) (B + 3) i x = bif xin i 40 && xbool x then some (rput B (rup q 2 i.toNatClampNeg x) M) else none := r_sZ B q M (j := 2) (by decide) rfl rfl i x
theorem rg_bLow (B : Nat) (q : xrho) (M : xM) : xgetR (rput B q M) B 12 3 = some (some (B + 4)) := by unfold xgetR; rw [r_get B q M (by decide)]; rfl
theorem ra_bLow (B : Nat) (q : xrho) (M : xM) (i : Int32) : xaI (rput B q M) (B + 4) i = bif xin i 40 then some (q.1 3 i.toNatClampNeg) else none := r_aI B q M (j := 3) (by decide) rfl rfl i
theorem rs_bLow (B : Nat) (q : xrho) (M : xM) (i : Int32) (x : Int32) : xsI (rput B q M) (B + 4) i x = bif xin i 40 then some (rput B (rup q 3 i.toNatClampNeg x) M) else none := r_sI B q M (j := 3) (by decide) rfl rfl i x
theorem rg_bHigh (B : Nat) (q : xrho) (M : xM) : xgetR (rput B q M) B 12 4 = some (some (B + 5)) := by unfold xgetR; rw [r_get B q M (by decide)]; rfl
theorem ra_bHigh (B : Nat) (q : xrho) (M : xM) (i : Int32) : xaI (rput B q M) (B + 5) i = bif xin i 40 then some (q.1 4 i.toNatClampNeg) else none := r_aI B q M (j := 4) (by decide) rfl rfl i
theorem rs_bHigh (B : Nat) (q : xrho) (M : xM) (i : Int32) (x : Int32) : xsI (rput B q M) (B + 5) i x = bif xin i 40 then some (rput B (rup q 4 i.toNatClampNeg x) M) else none := r_sI B q M (j := 4) (by decide) rfl rfl i x
theorem rg_bEpoch (B : Nat) (q : xrho) (M : xM) : xgetR (rput B q M) B 12 5 = some (some (B + 6)) := by unfold xgetR; rw [r_get B q M (by decide)]; rfl
theorem ra_bEpoch (B : Nat) (q : xrho) (M : xM) (i : Int32) : xaI (rput B q M) (B + 6) i = bif xin i 40 then some (q.1 5 i.toNatClampNeg) else none := r_aI B q M (j := 5) (by decide) rfl rfl i
theorem rs_bEpoch (B : Nat) (q : xrho) (M : xM) (i : Int32) (x : Int32) : xsI (rput B q M) (B + 6) i x = bif xin i 40 then some (rput B (rup q 5 i.toNatClampNeg x) M) else none := r_sI B q M (j := 5) (by decide) rfl rfl i x
theorem rg_bHome (B : Nat) (q : xrho) (M : xM) : xgetR (rput B q M) B 12 6 = some (some (B + 7)) := by unfold xgetR; rw [r_get B q M (by decide)]; rfl
theorem ra_bHome (B : Nat) (q : xrho) (M : xM) (i : Int32) : xaI (rput B q M) (B + 7) i = bif xin i 40 then some (q.1 6 i.toNatClampNeg) else none := r_aI B q M (j := 6) (by decide) rfl rfl i
theorem rs_bHome (B : Nat) (q : xrho) (M : xM) (i : Int32) (x : Int32) : xsI (rput B q M) (B + 7) i x = bif xin i 40 then some (rput B (rup q 6 i.toNatClampNeg x) M) else none := r_sI B q M (j := 6) (by decide) rfl rfl i x
theorem rg_bTaker (B : Nat) (q : xrho) (M : xM) : xgetR (rput B q M) B 12 7 = some (some (B + 8)) := by unfold xgetR; rw [r_get B q M (by decide)]; rfl
theorem ra_bTaker (B : Nat) (q : xrho) (M : xM) (i : Int32) : xaI (rput B q M) (B + 8) i = bif xin i 40 then some (q.1 7 i.toNatClampNeg) else none := r_aI B q M (j := 7) (by decide) rfl rfl i
theorem rs_bTaker (B : Nat) (q : xrho) (M : xM) (i : Int32) (x : Int32) : xsI (rput B q M) (B + 8) i x = bif xin i 40 then some (rput B (rup q 7 i.toNatClampNeg x) M) else none := r_sI B q M (j := 7) (by decide) rfl rfl i x
theorem rg_bMove (B : Nat) (q : xrho) (M : xM) : xgetR (rput B q M) B 12 8 = some (some (B + 9)) := by unfold xgetR; rw [r_get B q M (by decide)]; rfl
theorem ra_bMove (B : Nat) (q : xrho) (M : xM) (i : Int32) : xaI (rput B q M) (B + 9) i = bif xin i 40 then some (q.1 8 i.toNatClampNeg) else none := r_aI B q M (j := 8) (by decide) rfl rfl i
theorem rs_bMove (B : Nat) (q : xrho) (M : xM) (i : Int32) (x : Int32) : xsI (rput B q M) (B + 9) i x = bif xin i 40 then some (rput B (rup q 8 i.toNatClampNeg x) M) else none := r_sI B q M (j := 8) (by decide) rfl rfl i x
theorem rg_owed (B : Nat) (q : xrho) (M : xM) : xgetR (rput B q M) B 12 9 = some (some (B + 10)) := by unfold xgetR; rw [r_get B q M (by decide)]; rfl
theorem ra_owed (B : Nat) (q : xrho) (M : xM) (i : Int32) : xaI (rput B q M) (B + 10) i = bif xin i 160 then some (q.1 9 i.toNatClampNeg) else none := r_aI B q M (j := 9) (by decide) rfl rfl i
theorem rs_owed (B : Nat) (q : xrho) (M : xM) (i : Int32) (x : Int32) : xsI (rput B q M) (B + 10) i x = bif xin i 160 then some (rput B (rup q 9 i.toNatClampNeg x) M) else none := r_sI B q M (j := 9) (by decide) rfl rfl i x
theorem rg_oGiver (B : Nat) (q : xrho) (M : xM) : xgetR (rput B q M) B 12 10 = some (some (B + 11)) := by unfold xgetR; rw [r_get B q M (by decide)]; rfl
theorem ra_oGiver (B : Nat) (q : xrho) (M : xM) (i : Int32) : xaI (rput B q M) (B + 11) i = bif xin i 40 then some (q.1 10 i.toNatClampNeg) else none := r_aI B q M (j := 10) (by decide) rfl rfl i
theorem rs_oGiver (B : Nat) (q : xrho) (M : xM) (i : Int32) (x : Int32) : xsI (rput B q M) (B + 11) i x = bif xin i 40 then some (rput B (rup q 10 i.toNatClampNeg x) M) else none := r_sI B q M (j := 10) (by decide) rfl rfl i x
theorem rg_oTaker (B : Nat) (q : xrho) (M : xM) : xgetR (rput B q M) B 12 11 = some (some (B + 12)) := by unfold xgetR; rw [r_get B q M (by decide)]; rfl
theorem ra_oTaker (B : Nat) (q : xrho) (M : xM) (i : Int32) : xaI (rput B q M) (B + 12) i = bif xin i 40 then some (q.1 11 i.toNatClampNeg) else none := r_aI B q M (j := 11) (by decide) rfl rfl i
theorem rs_oTaker (B : Nat) (q : xrho) (M : xM) (i : Int32) (x : Int32) : xsI (rput B q M) (B + 12) i x = bif xin i 40 then some (rput B (rup q 11 i.toNatClampNeg x) M) else none := r_sI B q M (j := 11) (by decide) rfl rfl i x
theorem rg_ranges (B : Nat) (q : xrho) (M : xM) : xgetI (rput B q M) B 12 12 = some (q.1 12 0) := by unfold xgetI; rw [r_get B q M (by decide)]; rfl
theorem rp_ranges (B : Nat) (q : xrho) (M : xM) (x : Int32) : xput (rput B q M) B 12 12 (vi x) = some (rput B (rup q 12 0 x) M) := r_pI B q M (by decide) rfl x
theorem rg_over (B : Nat) (q : xrho) (M : xM) : xgetI (rput B q M) B 12 13 = some (q.1 13 0) := by unfold xgetI; rw [r_get B q M (by decide)]; rfl
theorem rp_over (B : Nat) (q : xrho) (M : xM) (x : Int32) : xput (rput B q M) B 12 13 (vi x) = some (rput B (rup q 13 0 x) M) := r_pI B q M (by decide) rfl x
theorem rg_undone (B : Nat) (q : xrho) (M : xM) : xgetI (rput B q M) B 12 14 = some (q.1 14 0) := by unfold xgetI; rw [r_get B q M (by decide)]; rfl
theorem rp_undone (B : Nat) (q : xrho) (M : xM) (x : Int32) : xput (rput B q M) B 12 14 (vi x) = some (rput B (rup q 14 0 x) M) := r_pI B q M (by decide) rfl x
theorem rg_state (B : Nat) (q : xrho) (M : xM) : xgetR (rput B q M) B 12 15 = some (some (B + 13)) := by unfold xgetR; rw [r_get B q M (by decide)]; rfl
theorem ra_state (B : Nat) (q : xrho) (M : xM) (i : Int32) : xaI (rput B q M) (B + 13) i = bif xin i 240 then some (q.1 15 i.toNatClampNeg) else none := r_aI B q M (j := 12) (by decide) rfl rfl i
theorem rs_state (B : Nat) (q : xrho) (M : xM) (i : Int32) (x : Int32) : xsI (rput B q M) (B + 13) i x = bif xin i 240 then some (rput B (rup q 15 i.toNatClampNeg x) M) else none := r_sI B q M (j := 12) (by decide) rfl rfl i x
theorem rg_low (B : Nat) (q : xrho) (M : xM) : xgetR (rput B q M) B 12 16 = some (some (B + 14)) := by unfold xgetR; rw [r_get B q M (by decide)]; rfl
theorem ra_low (B : Nat) (q : xrho) (M : xM) (i : Int32) : xaI (rput B q M) (B + 14) i = bif xin i 240 then some (q.1 16 i.toNatClampNeg) else none := r_aI B q M (j := 13) (by decide) rfl rfl i
theorem rs_low (B : Nat) (q : xrho) (M : xM) (i : Int32) (x : Int32) : xsI (rput B q M) (B + 14) i x = bif xin i 240 then some (rput B (rup q 16 i.toNatClampNeg x) M) else none := r_sI B q M (j := 13) (by decide) rfl rfl i x
theorem rg_high (B : Nat) (q : xrho) (M : xM) : xgetR (rput B q M) B 12 17 = some (some (B + 15)) := by unfold xgetR; rw [r_get B q M (by decide)]; rfl
theorem ra_high (B : Nat) (q : xrho) (M : xM) (i : Int32) : xaI (rput B q M) (B + 15) i = bif xin i 240 then some (q.1 17 i.toNatClampNeg) else none := r_aI B q M (j := 14) (by decide) rfl rfl i
theorem rs_high (B : Nat) (q : xrho) (M : xM) (i : Int32) (x : Int32) : xsI (rput B q M) (B + 15) i x = bif xin i 240 then some (rput B (rup q 17 i.toNatClampNeg x) M) else none := r_sI B q M (j := 14) (by decide) rfl rfl i x
theorem rg_epoch (B : Nat) (q : xrho) (M : xM) : xgetR (rput B q M) B 12 18 = some (some (B + 16)) := by unfold xgetR; rw [r_get B q M (by decide)]; rfl
theorem ra_epoch (B : Nat) (q : xrho) (M : xM) (i : Int32) : xaI (rput B q M) (B + 16) i = bif xin i 240 then some (q.1 18 i.toNatClampNeg) else none := r_aI B q M (j := 15) (by decide) rfl rfl i
theorem rs_epoch (B : Nat) (q : xrho) (M : xM) (i : Int32) (x : Int32) : xsI (rput B q M) (B + 16) i x = bif xin i 240 then some (rput B (rup q 18 i.toNatClampNeg x) M) else none := r_sI B q M (j := 15) (by decide) rfl rfl i x
theorem rg_rowMany (B : Nat) (q : xrho) (M : xM) : xgetR (rput B q M) B 12 19 = some (some (B + 17)) := by unfold xgetR; rw [r_get B q M (by decide)]; rfl
theorem ra_rowMany (B : Nat) (q : xrho) (M : xM) (i : Int32) : xaI (rput B q M) (B + 17) i = bif xin i 240 then some (q.1 19 i.toNatClampNeg) else none := r_aI B q M (j := 16) (by decide) rfl rfl i
theorem rs_rowMany (B : Nat) (q : xrho) (M : xM) (i : Int32) (x : Int32) : xsI (rput B q M) (B + 17) i x = bif xin i 240 then some (rput B (rup q 19 i.toNatClampNeg x) M) else none := r_sI B q M (j := 16) (by decide) rfl rfl i x
theorem rg_rowKey (B : Nat) (q : xrho) (M : xM) : xgetR (rput B q M) B 12 20 = some (some (B + 18)) := by unfold xgetR; rw [r_get B q M (by decide)]; rfl
theorem ra_rowKey (B : Nat) (q : xrho) (M : xM) (i : Int32) : xaI (rput B q M) (B + 18) i = bif xin i 14400 then some (q.1 20 i.toNatClampNeg) else none := r_aI B q M (j := 17) (by decide) rfl rfl i
theorem rs_rowKey (B : Nat) (q : xrho) (M : xM) (i : Int32) (x : Int32) : xsI (rput B q M) (B + 18) i x = bif xin i 14400 then some (rput B (rup q 20 i.toNatClampNeg x) M) else none := r_sI B q M (j := 17) (by decide) rfl rfl i x
theorem rg_moveTo (B : Nat) (q : xrho) (M : xM) : xgetR (rput B q M) B 12 21 = some (some (B + 19)) := by unfold xgetR; rw [r_get B q M (by decide)]; rfl
theorem ra_moveTo (B : Nat) (q : xrho) (M : xM) (i : Int32) : xaI (rput B q M) (B + 19) i = bif xin i 240 then some (q.1 21 i.toNatClampNeg) else none := r_aI B q M (j := 18) (by decide) rfl rfl i
theorem rs_moveTo (B : Nat) (q : xrho) (M : xM) (i : Int32) (x : Int32) : xsI (rput B q M) (B + 19) i x = bif xin i 240 then some (rput B (rup q 21 i.toNatClampNeg x) M) else none := r_sI B q M (j := 18) (by decide) rfl rfl i x
theorem rg_attempt (B : Nat) (q : xrho) (M : xM) : xgetR (rput B q M) B 12 22 = some (some (B + 20)) := by unfold xgetR; rw [r_get B q M (by decide)]; rfl
theorem ra_attempt (B : Nat) (q : xrho) (M : xM) (i : Int32) : xaI (rput B q M) (B + 20) i = bif xin i 240 then some (q.1 22 i.toNatClampNeg) else none := r_aI B q M (j := 19) (by decide) rfl rfl i
theorem rs_attempt (B : Nat) (q : xrho) (M : xM) (i : Int32) (x : Int32) : xsI (rput B q M) (B + 20) i x = bif xin i 240 then some (rput B (rup q 22 i.toNatClampNeg x) M) else none := r_sI B q M (j := 19) (by decide) rfl rfl i x
theorem rg_part (B : Nat) (q : xrho) (M : xM) : xgetR (rput B q M) B 12 23 = some (some (B + 21)) := by unfold xgetR; rw [r_get B q M (by decide)]; rfl
theorem ra_part (B : Nat) (q : xrho) (M : xM) (i : Int32) : xaI (rput B q M) (B + 21) i = bif xin i 240 then some (q.1 23 i.toNatClampNeg) else none := r_aI B q M (j := 20) (by decide) rfl rfl i
theorem rs_part (B : Nat) (q : xrho) (M : xM) (i : Int32) (x : Int32) : xsI (rput B q M) (B + 21) i x = bif xin i 240 then some (rput B (rup q 23 i.toNatClampNeg x) M) else none := r_sI B q M (j := 20) (by decide) rfl rfl i x
theorem rg_sent (B : Nat) (q : xrho) (M : xM) : xgetR (rput B q M) B 12 24 = some (some (B + 22)) := by unfold xgetR; rw [r_get B q M (by decide)]; rfl
theorem ra_sent (B : Nat) (q : xrho) (M : xM) (i : Int32) : xaI (rput B q M) (B + 22) i = bif xin i 240 then some (q.1 24 i.toNatClampNeg) else none := r_aI B q M (j := 21) (by decide) rfl rfl i
theorem rs_sent (B : Nat) (q : xrho) (M : xM) (i : Int32) (x : Int32) : xsI (rput B q M) (B + 22) i x = bif xin i 240 then some (rput B (rup q 24 i.toNatClampNeg x) M) else none := r_sI B q M (j := 21) (by decide) rfl rfl i x
theorem rg_sendMany (B : Nat) (q : xrho) (M : xM) : xgetR (rput B q M) B 12 25 = some (some (B + 23)) := by unfold xgetR; rw [r_get B q M (by decide)]; rfl
theorem ra_sendMany (B : Nat) (q : xrho) (M : xM) (i : Int32) : xaI (rput B q M) (B + 23) i = bif xin i 240 then some (q.1 25 i.toNatClampNeg) else none := r_aI B q M (j := 22) (by decide) rfl rfl i
theorem rs_sendMany (B : Nat) (q : xrho) (M : xM) (i : Int32) (x : Int32) : xsI (rput B q M) (B + 23) i x = bif xin i 240 then some (rput B (rup q 25 i.toNatClampNeg x) M) else none := r_sI B q M (j := 22) (by decide) rfl rfl i x
theorem rg_sendKey (B : Nat) (q : xrho) (M : xM) : xgetR (rput B q M) B 12 26 = some (some (B + 24)) := by unfold xgetR; rw [r_get B q M (by decide)]; rfl
theorem ra_sendKey (B : Nat) (q : xrho) (M : xM) (i : Int32) : xaI (rput B q M) (B + 24) i = bif xin i 120000 then some (q.1 26 i.toNatClampNeg) else none := r_aI B q M (j := 23) (by decide) rfl rfl i
theorem rs_sendKey (B : Nat) (q : xrho) (M : xM) (i : Int32) (x : Int32) : xsI (rput B q M) (B + 24) i x = bif xin i 120000 then some (rput B (rup q 26 i.toNatClampNeg x) M) else none := r_sI B q M (j := 23) (by decide) rfl rfl i x
theorem rg_rowValue (B : Nat) (q : xrho) (M : xM) : xgetR (rput B q M) B 12 27 = some (some (B + 25)) := by unfold xgetR; rw [r_get B q M (by decide)]; rfl
theorem ra_rowValue (B : Nat) (q : xrho) (M : xM) (i : Int32) : xaL (rput B q M) (B + 25) i = bif xin i 14400 then some (q.2 27 i.toNatClampNeg) else none := r_aL B q M (j := 24) (by decide) rfl rfl i
theorem rs_rowValue (B : Nat) (q : xrho) (M : xM) (i : Int32) (x : Int64) : xsL (rput B q M) (B + 25) i x = bif xin i 14400 then some (rput B (rupL q 27 i.toNatClampNeg x) M) else none := r_sL B q M (j := 24) (by decide) rfl rfl i x
theorem rg_lastMany (B : Nat) (q : xrho) (M : xM) : xgetR (rput B q M) B 12 28 = some (some (B + 26)) := by unfold xgetR; rw [r_get B q M (by decide)]; rfl
theorem ra_lastMany (B : Nat) (q : xrho) (M : xM) (i : Int32) : xaI (rput B q M) (B + 26) i = bif xin i 240 then some (q.1 28 i.toNatClampNeg) else none := r_aI B q M (j := 25) (by decide) rfl rfl i
theorem rs_lastMany (B : Nat) (q : xrho) (M : xM) (i : Int32) (x : Int32) : xsI (rput B q M) (B + 26) i x = bif xin i 240 then some (rput B (rup q 28 i.toNatClampNeg x) M) else none := r_sI B q M (j := 25) (by decide) rfl rfl i x
theorem rg_lastLetter (B : Nat) (q : xrho) (M : xM) : xgetR (rput B q M) B 12 29 = some (some (B + 27)) := by unfold xgetR; rw [r_get B q M (by decide)]; rfl
theorem ra_lastLetter (B : Nat) (q : xrho) (M : xM) (i : Int32) : xaI (rput B q M) (B + 27) i = bif xin i 240 then some (q.1 29 i.toNatClampNeg) else none := r_aI B q M (j := 26) (by decide) rfl rfl i
theorem rs_lastLetter (B : Nat) (q : xrho) (M : xM) (i : Int32) (x : Int32) : xsI (rput B q M) (B + 27) i x = bif xin i 240 then some (rput B (rup q 29 i.toNatClampNeg x) M) else none := r_sI B q M (j := 26) (by decide) rfl rfl i x
theorem rg_pastEpoch (B : Nat) (q : xrho) (M : xM) : xgetR (rput B q M) B 12 30 = some (some (B + 28)) := by unfold xgetR; rw [r_get B q M (by decide)]; rfl
theorem ra_pastEpoch (B : Nat) (q : xrho) (M : xM) (i : Int32) : xaI (rput B q M) (B + 28) i = bif xin i 240 then some (q.1 30 i.toNatClampNeg) else none := r_aI B q M (j := 27) (by decide) rfl rfl i
theorem rs_pastEpoch (B : Nat) (q : xrho) (M : xM) (i : Int32) (x : Int32) : xsI (rput B q M) (B + 28) i x = bif xin i 240 then some (rput B (rup q 30 i.toNatClampNeg x) M) else none := r_sI B q M (j := 27) (by decide) rfl rfl i x
theorem rg_pastAttempt (B : Nat) (q : xrho) (M : xM) : xgetR (rput B q M) B 12 31 = some (some (B + 29)) := by unfold xgetR; rw [r_get B q M (by decide)]; rfl
theorem ra_pastAttempt (B : Nat) (q : xrho) (M : xM) (i : Int32) : xaI (rput B q M) (B + 29) i = bif xin i 240 then some (q.1 31 i.toNatClampNeg) else none := r_aI B q M (j := 28) (by decide) rfl rfl i
theorem rs_pastAttempt (B : Nat) (q : xrho) (M : xM) (i : Int32) (x : Int32) : xsI (rput B q M) (B + 29) i x = bif xin i 240 then some (rput B (rup q 31 i.toNatClampNeg x) M) else none := r_sI B q M (j := 28) (by decide) rfl rfl i x
theorem rg_isTaken (B : Nat) (q : xrho) (M : xM) : xgetR (rput B q M) B 12 32 = some (some (B + 30)) := by unfold xgetR; rw [r_get B q M (by decide)]; rfl
theorem ra_isTaken (B : Nat) (q : xrho) (M : xM) (i : Int32) : xaZ (rput B q M) (B + 30) i = bif xin i 240 then some (q.1 32 i.toNatClampNeg) else none := r_aZ B q M (j := 29) (by decide) rfl rfl i
theorem rs_isTaken (B : Nat) (q : xrho) (M : xM) (i : Int32) (x : Int32) : xsZ (rput B q M) (B + 30) i x = bif xin i 240 && xbool x then some (rput B (rup q 32 i.toNatClampNeg x) M) else none := r_sZ B q M (j := 29) (by decide) rfl rfl i x
theorem rg_isEndTaken (B : Nat) (q : xrho) (M : xM) : xgetR (rput B q M) B 12 33 = some (some (B + 31)) := by unfold xgetR; rw [r_get B q M (by decide)]; rfl
theorem ra_isEndTaken (B : Nat) (q : xrho) (M : xM) (i : Int32) : xaZ (rput B q M) (B + 31) i = bif xin i 240 then some (q.1 33 i.toNatClampNeg) else none := r_aZ B q M (j := 30) (by decide) rfl rfl i
theorem rs_isEndTaken (B : Nat) (q : xrho) (M : xM) (i : Int32) (x : Int32) : xsZ (rput B q M) (B + 31) i x = bif xin i 240 && xbool x then some (rput B (rup q 33 i.toNatClampNeg x) M) else none := r_sZ B q M (j := 30) (by decide) rfl rfl i x
theorem rg_keptMany (B : Nat) (q : xrho) (M : xM) : xgetR (rput B q M) B 12 34 = some (some (B + 32)) := by unfold xgetR; rw [r_get B q M (by decide)]; rfl
theorem ra_keptMany (B : Nat) (q : xrho) (M : xM) (i : Int32) : xaI (rput B q M) (B + 32) i = bif xin i 1440 then some (q.1 34 i.toNatClampNeg) else none := r_aI B q M (j := 31) (by decide) rfl rfl i
theorem rs_keptMany (B : Nat) (q : xrho) (M : xM) (i : Int32) (x : Int32) : xsI (rput B q M) (B + 32) i x = bif xin i 1440 then some (rput B (rup q 34 i.toNatClampNeg x) M) else none := r_sI B q M (j := 31) (by decide) rfl rfl i x
theorem rg_keptCount (B : Nat) (q : xrho) (M : xM) : xgetR (rput B q M) B 12 35 = some (some (B + 33)) := by unfold xgetR; rw [r_get B q M (by decide)]; rfl
theorem ra_keptCount (B : Nat) (q : xrho) (M : xM) (i : Int32) : xaI (rput B q M) (B + 33) i = bif xin i 5760 then some (q.1 35 i.toNatClampNeg) else none := r_aI B q M (j := 32) (by decide) rfl rfl i
theorem rs_keptCount (B : Nat) (q : xrho) (M : xM) (i : Int32) (x : Int32) : xsI (rput B q M) (B + 33) i x = bif xin i 5760 then some (rput B (rup q 35 i.toNatClampNeg x) M) else none := r_sI B q M (j := 32) (by decide) rfl rfl i x
theorem rg_keptSign (B : Nat) (q : xrho) (M : xM) : xgetR (rput B q M) B 12 36 = some (some (B + 34)) := by unfold xgetR; rw [r_get B q M (by decide)]; rfl
theorem ra_keptSign (B : Nat) (q : xrho) (M : xM) (i : Int32) : xaI (rput B q M) (B + 34) i = bif xin i 5760 then some (q.1 36 i.toNatClampNeg) else none := r_aI B q M (j := 33) (by decide) rfl rfl i
theorem rs_keptSign (B : Nat) (q : xrho) (M : xM) (i : Int32) (x : Int32) : xsI (rput B q M) (B + 34) i x = bif xin i 5760 then some (rput B (rup q 36 i.toNatClampNeg x) M) else none := r_sI B q M (j := 33) (by decide) rfl rfl i x
theorem rg_keptValue (B : Nat) (q : xrho) (M : xM) : xgetR (rput B q M) B 12 37 = some (some (B + 35)) := by unfold xgetR; rw [r_get B q M (by decide)]; rfl
theorem ra_keptValue (B : Nat) (q : xrho) (M : xM) (i : Int32) : xaL (rput B q M) (B + 35) i = bif xin i 5760 then some (q.2 37 i.toNatClampNeg) else none := r_aL B q M (j := 34) (by decide) rfl rfl i
theorem rs_keptValue (B : Nat) (q : xrho) (M : xM) (i : Int32) (x : Int64) : xsL (rput B q M) (B + 35) i x = bif xin i 5760 then some (rput B (rupL q 37 i.toNatClampNeg x) M) else none := r_sL B q M (j := 34) (by decide) rfl rfl i x
theorem rg_gHost (B : Nat) (q : xrho) (M : xM) : xgetR (rput B q M) B 12 38 = some (some (B + 36)) := by unfold xgetR; rw [r_get B q M (by decide)]; rfl
theorem ra_gHost (B : Nat) (q : xrho) (M : xM) (i : Int32) : xaI (rput B q M) (B + 36) i = bif xin i 1200 then some (q.1 38 i.toNatClampNeg) else none := r_aI B q M (j := 35) (by decide) rfl rfl i
theorem rs_gHost (B : Nat) (q : xrho) (M : xM) (i : Int32) (x : Int32) : xsI (rput B q M) (B + 36) i x = bif xin i 1200 then some (rput B (rup q 38 i.toNatClampNeg x) M) else none := r_sI B q M (j := 35) (by decide) rfl rfl i x
theorem rg_gRange (B : Nat) (q : xrho) (M : xM) : xgetR (rput B q M) B 12 39 = some (some (B + 37)) := by unfold xgetR; rw [r_get B q M (by decide)]; rfl
theorem ra_gRange (B : Nat) (q : xrho) (M : xM) (i : Int32) : xaI (rput B q M) (B + 37) i = bif xin i 1200 then some (q.1 39 i.toNatClampNeg) else none := r_aI B q M (j := 36) (by decide) rfl rfl i
theorem rs_gRange (B : Nat) (q : xrho) (M : xM) (i : Int32) (x : Int32) : xsI (rput B q M) (B + 37) i x = bif xin i 1200 then some (rput B (rup q 39 i.toNatClampNeg x) M) else none := r_sI B q M (j := 36) (by decide) rfl rfl i x
theorem rg_gLow (B : Nat) (q : xrho) (M : xM) : xgetR (rput B q M) B 12 40 = some (some (B + 38)) := by unfold xgetR; rw [r_get B q M (by decide)]; rfl
theorem ra_gLow (B : Nat) (q : xrho) (M : xM) (i : Int32) : xaI (rput B q M) (B + 38) i = bif xin i 1200 then some (q.1 40 i.toNatClampNeg) else none := r_aI B q M (j := 37) (by decide) rfl rfl i
theorem rs_gLow (B : Nat) (q : xrho) (M : xM) (i : Int32) (x : Int32) : xsI (rput B q M) (B + 38) i x = bif xin i 1200 then some (rput B (rup q 40 i.toNatClampNeg x) M) else none := r_sI B q M (j := 37) (by decide) rfl rfl i x
theorem rg_gHigh (B : Nat) (q : xrho) (M : xM) : xgetR (rput B q M) B 12 41 = some (some (B + 39)) := by unfold xgetR; rw [r_get B q M (by decide)]; rfl
theorem ra_gHigh (B : Nat) (q : xrho) (M : xM) (i : Int32) : xaI (rput B q M) (B + 39) i = bif xin i 1200 then some (q.1 41 i.toNatClampNeg) else none := r_aI B q M (j := 38) (by decide) rfl rfl i
theorem rs_gHigh (B : Nat) (q : xrho) (M : xM) (i : Int32) (x : Int32) : xsI (rput B q M) (B + 39) i x = bif xin i 1200 then some (rput B (rup q 41 i.toNatClampNeg x) M) else none := r_sI B q M (j := 38) (by decide) rfl rfl i x
theorem rg_gEpoch (B : Nat) (q : xrho) (M : xM) : xgetR (rput B q M) B 12 42 = some (some (B + 40)) := by unfold xgetR; rw [r_get B q M (by decide)]; rfl
theorem ra_gEpoch (B : Nat) (q : xrho) (M : xM) (i : Int32) : xaI (rput B q M) (B + 40) i = bif xin i 1200 then some (q.1 42 i.toNatClampNeg) else none := r_aI B q M (j := 39) (by decide) rfl rfl i
theorem rs_gEpoch (B : Nat) (q : xrho) (M : xM) (i : Int32) (x : Int32) : xsI (rput B q M) (B + 40) i x = bif xin i 1200 then some (rput B (rup q 42 i.toNatClampNeg x) M) else none := r_sI B q M (j := 39) (by decide) rfl rfl i x
theorem rg_gHome (B : Nat) (q : xrho) (M : xM) : xgetR (rput B q M) B 12 43 = some (some (B + 41)) := by unfold xgetR; rw [r_get B q M (by decide)]; rfl
theorem ra_gHome (B : Nat) (q : xrho) (M : xM) (i : Int32) : xaI (rput B q M) (B + 41) i = bif xin i 1200 then some (q.1 43 i.toNatClampNeg) else none := r_aI B q M (j := 40) (by decide) rfl rfl i
theorem rs_gHome (B : Nat) (q : xrho) (M : xM) (i : Int32) (x : Int32) : xsI (rput B q M) (B + 41) i x = bif xin i 1200 then some (rput B (rup q 43 i.toNatClampNeg x) M) else none := r_sI B q M (j := 40) (by decide) rfl rfl i x
theorem rg_gave (B : Nat) (q : xrho) (M : xM) : xgetI (rput B q M) B 12 44 = some (q.1 44 0) := by unfold xgetI; rw [r_get B q M (by decide)]; rfl
theorem rp_gave (B : Nat) (q : xrho) (M : xM) (x : Int32) : xput (rput B q M) B 12 44 (vi x) = some (rput B (rup q 44 0 x) M) := r_pI B q M (by decide) rfl x
theorem rg_callers (B : Nat) (q : xrho) (M : xM) : xgetI (rput B q M) B 12 45 = some (q.1 45 0) := by unfold xgetI; rw [r_get B q M (by decide)]; rfl
theorem rp_callers (B : Nat) (q : xrho) (M : xM) (x : Int32) : xput (rput B q M) B 12 45 (vi x) = some (rput B (rup q 45 0 x) M) := r_pI B q M (by decide) rfl x
theorem rg_callMany (B : Nat) (q : xrho) (M : xM) : xgetR (rput B q M) B 12 46 = some (some (B + 42)) := by unfold xgetR; rw [r_get B q M (by decide)]; rfl
theorem ra_callMany (B : Nat) (q : xrho) (M : xM) (i : Int32) : xaI (rput B q M) (B + 42) i = bif xin i 6 then some (q.1 46 i.toNatClampNeg) else none := r_aI B q M (j := 41) (by decide) rfl rfl i
theorem rs_callMany (B : Nat) (q : xrho) (M : xM) (i : Int32) (x : Int32) : xsI (rput B q M) (B + 42) i x = bif xin i 6 then some (rput B (rup q 46 i.toNatClampNeg x) M) else none := r_sI B q M (j := 41) (by decide) rfl rfl i x
theorem rg_cKind (B : Nat) (q : xrho) (M : xM) : xgetR (rput B q M) B 12 47 = some (some (B + 43)) := by unfold xgetR; rw [r_get B q M (by decide)]; rfl
theorem ra_cKind (B : Nat) (q : xrho) (M : xM) (i : Int32) : xaI (rput B q M) (B + 43) i = bif xin i 360 then some (q.1 47 i.toNatClampNeg) else none := r_aI B q M (j := 42) (by decide) rfl rfl i
theorem rs_cKind (B : Nat) (q : xrho) (M : xM) (i : Int32) (x : Int32) : xsI (rput B q M) (B + 43) i x = bif xin i 360 then some (rput B (rup q 47 i.toNatClampNeg x) M) else none := r_sI B q M (j := 42) (by decide) rfl rfl i x
theorem rg_cKey (B : Nat) (q : xrho) (M : xM) : xgetR (rput B q M) B 12 48 = some (some (B + 44)) := by unfold xgetR; rw [r_get B q M (by decide)]; rfl
theorem ra_cKey (B : Nat) (q : xrho) (M : xM) (i : Int32) : xaI (rput B q M) (B + 44) i = bif xin i 360 then some (q.1 48 i.toNatClampNeg) else none := r_aI B q M (j := 43) (by decide) rfl rfl i
theorem rs_cKey (B : Nat) (q : xrho) (M : xM) (i : Int32) (x : Int32) : xsI (rput B q M) (B + 44) i x = bif xin i 360 then some (rput B (rup q 48 i.toNatClampNeg x) M) else none := r_sI B q M (j := 43) (by decide) rfl rfl i x
theorem rg_cSign (B : Nat) (q : xrho) (M : xM) : xgetR (rput B q M) B 12 49 = some (some (B + 45)) := by unfold xgetR; rw [r_get B q M (by decide)]; rfl
theorem ra_cSign (B : Nat) (q : xrho) (M : xM) (i : Int32) : xaI (rput B q M) (B + 45) i = bif xin i 360 then some (q.1 49 i.toNatClampNeg) else none := r_aI B q M (j := 44) (by decide) rfl rfl i
theorem rs_cSign (B : Nat) (q : xrho) (M : xM) (i : Int32) (x : Int32) : xsI (rput B q M) (B + 45) i x = bif xin i 360 then some (rput B (rup q 49 i.toNatClampNeg x) M) else none := r_sI B q M (j := 44) (by decide) rfl rfl i x
theorem rg_cSent (B : Nat) (q : xrho) (M : xM) : xgetR (rput B q M) B 12 50 = some (some (B + 46)) := by unfold xgetR; rw [r_get B q M (by decide)]; rfl
theorem ra_cSent (B : Nat) (q : xrho) (M : xM) (i : Int32) : xaI (rput B q M) (B + 46) i = bif xin i 360 then some (q.1 50 i.toNatClampNeg) else none := r_aI B q M (j := 45) (by decide) rfl rfl i
theorem rs_cSent (B : Nat) (q : xrho) (M : xM) (i : Int32) (x : Int32) : xsI (rput B q M) (B + 46) i x = bif xin i 360 then some (rput B (rup q 50 i.toNatClampNeg x) M) else none := r_sI B q M (j := 45) (by decide) rfl rfl i x
theorem rg_cV (B : Nat) (q : xrho) (M : xM) : xgetR (rput B q M) B 12 51 = some (some (B + 47)) := by unfold xgetR; rw [r_get B q M (by decide)]; rfl
theorem ra_cV (B : Nat) (q : xrho) (M : xM) (i : Int32) : xaL (rput B q M) (B + 47) i = bif xin i 360 then some (q.2 51 i.toNatClampNeg) else none := r_aL B q M (j := 46) (by decide) rfl rfl i
theorem rs_cV (B : Nat) (q : xrho) (M : xM) (i : Int32) (x : Int64) : xsL (rput B q M) (B + 47) i x = bif xin i 360 then some (rput B (rupL q 51 i.toNatClampNeg x) M) else none := r_sL B q M (j := 46) (by decide) rfl rfl i x
theorem rg_cW (B : Nat) (q : xrho) (M : xM) : xgetR (rput B q M) B 12 52 = some (some (B + 48)) := by unfold xgetR; rw [r_get B q M (by decide)]; rfl
theorem ra_cW (B : Nat) (q : xrho) (M : xM) (i : Int32) : xaL (rput B q M) (B + 48) i = bif xin i 360 then some (q.2 52 i.toNatClampNeg) else none := r_aL B q M (j := 47) (by decide) rfl rfl i
theorem rs_cW (B : Nat) (q : xrho) (M : xM) (i : Int32) (x : Int64) : xsL (rput B q M) (B + 48) i x = bif xin i 360 then some (rput B (rupL q 52 i.toNatClampNeg x) M) else none := r_sL B q M (j := 47) (by decide) rfl rfl i x
theorem rg_cValue (B : Nat) (q : xrho) (M : xM) : xgetR (rput B q M) B 12 53 = some (some (B + 49)) := by unfold xgetR; rw [r_get B q M (by decide)]; rfl
theorem ra_cValue (B : Nat) (q : xrho) (M : xM) (i : Int32) : xaL (rput B q M) (B + 49) i = bif xin i 360 then some (q.2 53 i.toNatClampNeg) else none := r_aL B q M (j := 48) (by decide) rfl rfl i
theorem rs_cValue (B : Nat) (q : xrho) (M : xM) (i : Int32) (x : Int64) : xsL (rput B q M) (B + 49) i x = bif xin i 360 then some (rput B (rupL q 53 i.toNatClampNeg x) M) else none := r_sL B q M (j := 48) (by decide) rfl rfl i x
theorem rg_cAnswered (B : Nat) (q : xrho) (M : xM) : xgetR (rput B q M) B 12 54 = some (some (B + 50)) := by unfold xgetR; rw [r_get B q M (by decide)]; rfl
theorem ra_cAnswered (B : Nat) (q : xrho) (M : xM) (i : Int32) : xaZ (rput B q M) (B + 50) i = bif xin i 360 then some (q.1 54 i.toNatClampNeg) else none := r_aZ B q M (j := 49) (by decide) rfl rfl i
theorem rs_cAnswered (B : Nat) (q : xrho) (M : xM) (i : Int32) (x : Int32) : xsZ (rput B q M) (B + 50) i x = bif xin i 360 && xbool x then some (rput B (rup q 54 i.toNatClampNeg x) M) else none := r_sZ B q M (j := 49) (by decide) rfl rfl i x
theorem rg_copyRange (B : Nat) (q : xrho) (M : xM) : xgetR (rput B q M) B 12 55 = some (some (B + 51)) := by unfold xgetR; rw [r_get B q M (by decide)]; rfl
theorem ra_copyRange (B : Nat) (q : xrho) (M : xM) (i : Int32) : xaI (rput B q M) (B + 51) i = bif xin i 60000 then some (q.1 55 i.toNatClampNeg) else none := r_aI B q M (j := 50) (by decide) rfl rfl i
theorem rs_copyRange (B : Nat) (q : xrho) (M : xM) (i : Int32) (x : Int32) : xsI (rput B q M) (B + 51) i x = bif xin i 60000 then some (rput B (rup q 55 i.toNatClampNeg x) M) else none := r_sI B q M (j := 50) (by decide) rfl rfl i x
theorem rg_copyEpoch (B : Nat) (q : xrho) (M : xM) : xgetR (rput B q M) B 12 56 = some (some (B + 52)) := by unfold xgetR; rw [r_get B q M (by decide)]; rfl
theorem ra_copyEpoch (B : Nat) (q : xrho) (M : xM) (i : Int32) : xaI (rput B q M) (B + 52) i = bif xin i 60000 then some (q.1 56 i.toNatClampNeg) else none := r_aI B q M (j := 51) (by decide) rfl rfl i
theorem rs_copyEpoch (B : Nat) (q : xrho) (M : xM) (i : Int32) (x : Int32) : xsI (rput B q M) (B + 52) i x = bif xin i 60000 then some (rput B (rup q 56 i.toNatClampNeg x) M) else none := r_sI B q M (j := 51) (by decide) rfl rfl i x
theorem rg_copyHome (B : Nat) (q : xrho) (M : xM) : xgetR (rput B q M) B 12 57 = some (some (B + 53)) := by unfold xgetR; rw [r_get B q M (by decide)]; rfl
theorem ra_copyHome (B : Nat) (q : xrho) (M : xM) (i : Int32) : xaI (rput B q M) (B + 53) i = bif xin i 60000 then some (q.1 57 i.toNatClampNeg) else none := r_aI B q M (j := 52) (by decide) rfl rfl i
theorem rs_copyHome (B : Nat) (q : xrho) (M : xM) (i : Int32) (x : Int32) : xsI (rput B q M) (B + 53) i x = bif xin i 60000 then some (rput B (rup q 57 i.toNatClampNeg x) M) else none := r_sI B q M (j := 52) (by decide) rfl rfl i x
theorem rg_copyLow (B : Nat) (q : xrho) (M : xM) : xgetR (rput B q M) B 12 58 = some (some (B + 54)) := by unfold xgetR; rw [r_get B q M (by decide)]; rfl
theorem ra_copyLow (B : Nat) (q : xrho) (M : xM) (i : Int32) : xaI (rput B q M) (B + 54) i = bif xin i 60000 then some (q.1 58 i.toNatClampNeg) else none := r_aI B q M (j := 53) (by decide) rfl rfl i
theorem rs_copyLow (B : Nat) (q : xrho) (M : xM) (i : Int32) (x : Int32) : xsI (rput B q M) (B + 54) i x = bif xin i 60000 then some (rput B (rup q 58 i.toNatClampNeg x) M) else none := r_sI B q M (j := 53) (by decide) rfl rfl i x
theorem rg_copyHigh (B : Nat) (q : xrho) (M : xM) : xgetR (rput B q M) B 12 59 = some (some (B + 55)) := by unfold xgetR; rw [r_get B q M (by decide)]; rfl
theorem ra_copyHigh (B : Nat) (q : xrho) (M : xM) (i : Int32) : xaI (rput B q M) (B + 55) i = bif xin i 60000 then some (q.1 59 i.toNatClampNeg) else none := r_aI B q M (j := 54) (by decide) rfl rfl i
theorem rs_copyHigh (B : Nat) (q : xrho) (M : xM) (i : Int32) (x : Int32) : xsI (rput B q M) (B + 55) i x = bif xin i 60000 then some (rput B (rup q 59 i.toNatClampNeg x) M) else none := r_sI B q M (j := 54) (by decide) rfl rfl i x
theorem rg_lKind (B : Nat) (q : xrho) (M : xM) : xgetR (rput B q M) B 12 60 = some (some (B + 56)) := by unfold xgetR; rw [r_get B q M (by decide)]; rfl
theorem ra_lKind (B : Nat) (q : xrho) (M : xM) (i : Int32) : xaI (rput B q M) (B + 56) i = bif xin i 1200 then some (q.1 60 i.toNatClampNeg) else none := r_aI B q M (j := 55) (by decide) rfl rfl i
theorem rs_lKind (B : Nat) (q : xrho) (M : xM) (i : Int32) (x : Int32) : xsI (rput B q M) (B + 56) i x = bif xin i 1200 then some (rput B (rup q 60 i.toNatClampNeg x) M) else none := r_sI B q M (j := 55) (by decide) rfl rfl i x
theorem rg_lTo (B : Nat) (q : xrho) (M : xM) : xgetR (rput B q M) B 12 61 = some (some (B + 57)) := by unfold xgetR; rw [r_get B q M (by decide)]; rfl
theorem ra_lTo (B : Nat) (q : xrho) (M : xM) (i : Int32) : xaI (rput B q M) (B + 57) i = bif xin i 1200 then some (q.1 61 i.toNatClampNeg) else none := r_aI B q M (j := 56) (by decide) rfl rfl i
theorem rs_lTo (B : Nat) (q : xrho) (M : xM) (i : Int32) (x : Int32) : xsI (rput B q M) (B + 57) i x = bif xin i 1200 then some (rput B (rup q 61 i.toNatClampNeg x) M) else none := r_sI B q M (j := 56) (by decide) rfl rfl i x
theorem rg_lFrom (B : Nat) (q : xrho) (M : xM) : xgetR (rput B q M) B 12 62 = some (some (B + 58)) := by unfold xgetR; rw [r_get B q M (by decide)]; rfl
theorem ra_lFrom (B : Nat) (q : xrho) (M : xM) (i : Int32) : xaI (rput B q M) (B + 58) i = bif xin i 1200 then some (q.1 62 i.toNatClampNeg) else none := r_aI B q M (j := 57) (by decide) rfl rfl i
theorem rs_lFrom (B : Nat) (q : xrho) (M : xM) (i : Int32) (x : Int32) : xsI (rput B q M) (B + 58) i x = bif xin i 1200 then some (rput B (rup q 62 i.toNatClampNeg x) M) else none := r_sI B q M (j := 57) (by decide) rfl rfl i x
theorem rg_lRange (B : Nat) (q : xrho) (M : xM) : xgetR (rput B q M) B 12 63 = some (some (B + 59)) := by unfold xgetR; rw [r_get B q M (by decide)]; rfl
theorem ra_lRange (B : Nat) (q : xrho) (M : xM) (i : Int32) : xaI (rput B q M) (B + 59) i = bif xin i 1200 then some (q.1 63 i.toNatClampNeg) else none := r_aI B q M (j := 58) (by decide) rfl rfl i
theorem rs_lRange (B : Nat) (q : xrho) (M : xM) (i : Int32) (x : Int32) : xsI (rput B q M) (B + 59) i x = bif xin i 1200 then some (rput B (rup q 63 i.toNatClampNeg x) M) else none := r_sI B q M (j := 58) (by decide) rfl rfl i x
theorem rg_lEpoch (B : Nat) (q : xrho) (M : xM) : xgetR (rput B q M) B 12 64 = some (some (B + 60)) := by unfold xgetR; rw [r_get B q M (by decide)]; rfl
theorem ra_lEpoch (B : Nat) (q : xrho) (M : xM) (i : Int32) : xaI (rput B q M) (B + 60) i = bif xin i 1200 then some (q.1 64 i.toNatClampNeg) else none := r_aI B q M (j := 59) (by decide) rfl rfl i
theorem rs_lEpoch (B : Nat) (q : xrho) (M : xM) (i : Int32) (x : Int32) : xsI (rput B q M) (B + 60) i x = bif xin i 1200 then some (rput B (rup q 64 i.toNatClampNeg x) M) else none := r_sI B q M (j := 59) (by decide) rfl rfl i x
theorem rg_lTimes (B : Nat) (q : xrho) (M : xM) : xgetR (rput B q M) B 12 65 = some (some (B + 61)) := by unfold xgetR; rw [r_get B q M (by decide)]; rfl
theorem ra_lTimes (B : Nat) (q : xrho) (M : xM) (i : Int32) : xaI (rput B q M) (B + 61) i = bif xin i 1200 then some (q.1 65 i.toNatClampNeg) else none := r_aI B q M (j := 60) (by decide) rfl rfl i
theorem rs_lTimes (B : Nat) (q : xrho) (M : xM) (i : Int32) (x : Int32) : xsI (rput B q M) (B + 61) i x = bif xin i 1200 then some (rput B (rup q 65 i.toNatClampNeg x) M) else none := r_sI B q M (j := 60) (by decide) rfl rfl i x
theorem rg_lCount (B : Nat) (q : xrho) (M : xM) : xgetR (rput B q M) B 12 66 = some (some (B + 62)) := by unfold xgetR; rw [r_get B q M (by decide)]; rfl
theorem ra_lCount (B : Nat) (q : xrho) (M : xM) (i : Int32) : xaI (rput B q M) (B + 62) i = bif xin i 1200 then some (q.1 66 i.toNatClampNeg) else none := r_aI B q M (j := 61) (by decide) rfl rfl i
theorem rs_lCount (B : Nat) (q : xrho) (M : xM) (i : Int32) (x : Int32) : xsI (rput B q M) (B + 62) i x = bif xin i 1200 then some (rput B (rup q 66 i.toNatClampNeg x) M) else none := r_sI B q M (j := 61) (by decide) rfl rfl i x
theorem rg_lAttempt (B : Nat) (q : xrho) (M : xM) : xgetR (rput B q M) B 12 67 = some (some (B + 63)) := by unfold xgetR; rw [r_get B q M (by decide)]; rfl
theorem ra_lAttempt (B : Nat) (q : xrho) (M : xM) (i : Int32) : xaI (rput B q M) (B + 63) i = bif xin i 1200 then some (q.1 67 i.toNatClampNeg) else none := r_aI B q M (j := 62) (by decide) rfl rfl i
theorem rs_lAttempt (B : Nat) (q : xrho) (M : xM) (i : Int32) (x : Int32) : xsI (rput B q M) (B + 63) i x = bif xin i 1200 then some (rput B (rup q 67 i.toNatClampNeg x) M) else none := r_sI B q M (j := 62) (by decide) rfl rfl i x
theorem rg_lM (B : Nat) (q : xrho) (M : xM) : xgetR (rput B q M) B 12 68 = some (some (B + 64)) := by unfold xgetR; rw [r_get B q M (by decide)]; rfl
theorem ra_lM (B : Nat) (q : xrho) (M : xM) (i : Int32) : xaI (rput B q M) (B + 64) i = bif xin i 1200 then some (q.1 68 i.toNatClampNeg) else none := r_aI B q M (j := 63) (by decide) rfl rfl i
theorem rs_lM (B : Nat) (q : xrho) (M : xM) (i : Int32) (x : Int32) : xsI (rput B q M) (B + 64) i x = bif xin i 1200 then some (rput B (rup q 68 i.toNatClampNeg x) M) else none := r_sI B q M (j := 63) (by decide) rfl rfl i x
theorem rg_lMany (B : Nat) (q : xrho) (M : xM) : xgetR (rput B q M) B 12 69 = some (some (B + 65)) := by unfold xgetR; rw [r_get B q M (by decide)]; rfl
theorem ra_lMany (B : Nat) (q : xrho) (M : xM) (i : Int32) : xaI (rput B q M) (B + 65) i = bif xin i 1200 then some (q.1 69 i.toNatClampNeg) else none := r_aI B q M (j := 64) (by decide) rfl rfl i
theorem rs_lMany (B : Nat) (q : xrho) (M : xM) (i : Int32) (x : Int32) : xsI (rput B q M) (B + 65) i x = bif xin i 1200 then some (rput B (rup q 69 i.toNatClampNeg x) M) else none := r_sI B q M (j := 64) (by decide) rfl rfl i x
theorem rg_lLow (B : Nat) (q : xrho) (M : xM) : xgetR (rput B q M) B 12 70 = some (some (B + 66)) := by unfold xgetR; rw [r_get B q M (by decide)]; rfl
theorem ra_lLow (B : Nat) (q : xrho) (M : xM) (i : Int32) : xaI (rput B q M) (B + 66) i = bif xin i 1200 then some (q.1 70 i.toNatClampNeg) else none := r_aI B q M (j := 65) (by decide) rfl rfl i
theorem rs_lLow (B : Nat) (q : xrho) (M : xM) (i : Int32) (x : Int32) : xsI (rput B q M) (B + 66) i x = bif xin i 1200 then some (rput B (rup q 70 i.toNatClampNeg x) M) else none := r_sI B q M (j := 65) (by decide) rfl rfl i x
theorem rg_lHigh (B : Nat) (q : xrho) (M : xM) : xgetR (rput B q M) B 12 71 = some (some (B + 67)) := by unfold xgetR; rw [r_get B q M (by decide)]; rfl
theorem ra_lHigh (B : Nat) (q : xrho) (M : xM) (i : Int32) : xaI (rput B q M) (B + 67) i = bif xin i 1200 then some (q.1 71 i.toNatClampNeg) else none := r_aI B q M (j := 66) (by decide) rfl rfl i
theorem rs_lHigh (B : Nat) (q : xrho) (M : xM) (i : Int32) (x : Int32) : xsI (rput B q M) (B + 67) i x = bif xin i 1200 then some (rput B (rup q 71 i.toNatClampNeg x) M) else none := r_sI B q M (j := 66) (by decide) rfl rfl i x
theorem rg_lHome (B : Nat) (q : xrho) (M : xM) : xgetR (rput B q M) B 12 72 = some (some (B + 68)) := by unfold xgetR; rw [r_get B q M (by decide)]; rfl
theorem ra_lHome (B : Nat) (q : xrho) (M : xM) (i : Int32) : xaI (rput B q M) (B + 68) i = bif xin i 1200 then some (q.1 72 i.toNatClampNeg) else none := r_aI B q M (j := 67) (by decide) rfl rfl i
theorem rs_lHome (B : Nat) (q : xrho) (M : xM) (i : Int32) (x : Int32) : xsI (rput B q M) (B + 68) i x = bif xin i 1200 then some (rput B (rup q 72 i.toNatClampNeg x) M) else none := r_sI B q M (j := 67) (by decide) rfl rfl i x
theorem rg_lSign (B : Nat) (q : xrho) (M : xM) : xgetR (rput B q M) B 12 73 = some (some (B + 69)) := by unfold xgetR; rw [r_get B q M (by decide)]; rfl
theorem ra_lSign (B : Nat) (q : xrho) (M : xM) (i : Int32) : xaI (rput B q M) (B + 69) i = bif xin i 1200 then some (q.1 73 i.toNatClampNeg) else none := r_aI B q M (j := 68) (by decide) rfl rfl i
theorem rs_lSign (B : Nat) (q : xrho) (M : xM) (i : Int32) (x : Int32) : xsI (rput B q M) (B + 69) i x = bif xin i 1200 then some (rput B (rup q 73 i.toNatClampNeg x) M) else none := r_sI B q M (j := 68) (by decide) rfl rfl i x
theorem rg_lKey (B : Nat) (q : xrho) (M : xM) : xgetR (rput B q M) B 12 74 = some (some (B + 70)) := by unfold xgetR; rw [r_get B q M (by decide)]; rfl
theorem ra_lKey (B : Nat) (q : xrho) (M : xM) (i : Int32) : xaI (rput B q M) (B + 70) i = bif xin i 3600 then some (q.1 74 i.toNatClampNeg) else none := r_aI B q M (j := 69) (by decide) rfl rfl i
theorem rs_lKey (B : Nat) (q : xrho) (M : xM) (i : Int32) (x : Int32) : xsI (rput B q M) (B + 70) i x = bif xin i 3600 then some (rput B (rup q 74 i.toNatClampNeg x) M) else none := r_sI B q M (j := 69) (by decide) rfl rfl i x
theorem rg_isLost (B : Nat) (q : xrho) (M : xM) : xgetR (rput B q M) B 12 75 = some (some (B + 71)) := by unfold xgetR; rw [r_get B q M (by decide)]; rfl
theorem ra_isLost (B : Nat) (q : xrho) (M : xM) (i : Int32) : xaZ (rput B q M) (B + 71) i = bif xin i 1200 then some (q.1 75 i.toNatClampNeg) else none := r_aZ B q M (j := 70) (by decide) rfl rfl i
theorem rs_isLost (B : Nat) (q : xrho) (M : xM) (i : Int32) (x : Int32) : xsZ (rput B q M) (B + 71) i x = bif xin i 1200 && xbool x then some (rput B (rup q 75 i.toNatClampNeg x) M) else none := r_sZ B q M (j := 70) (by decide) rfl rfl i x
theorem rg_lHas (B : Nat) (q : xrho) (M : xM) : xgetR (rput B q M) B 12 76 = some (some (B + 72)) := by unfold xgetR; rw [r_get B q M (by decide)]; rfl
theorem ra_lHas (B : Nat) (q : xrho) (M : xM) (i : Int32) : xaZ (rput B q M) (B + 72) i = bif xin i 3600 then some (q.1 76 i.toNatClampNeg) else none := r_aZ B q M (j := 71) (by decide) rfl rfl i
theorem rs_lHas (B : Nat) (q : xrho) (M : xM) (i : Int32) (x : Int32) : xsZ (rput B q M) (B + 72) i x = bif xin i 3600 && xbool x then some (rput B (rup q 76 i.toNatClampNeg x) M) else none := r_sZ B q M (j := 71) (by decide) rfl rfl i x
theorem rg_lValue (B : Nat) (q : xrho) (M : xM) : xgetR (rput B q M) B 12 77 = some (some (B + 73)) := by unfold xgetR; rw [r_get B q M (by decide)]; rfl
theorem ra_lValue (B : Nat) (q : xrho) (M : xM) (i : Int32) : xaL (rput B q M) (B + 73) i = bif xin i 3600 then some (q.2 77 i.toNatClampNeg) else none := r_aL B q M (j := 72) (by decide) rfl rfl i
theorem rs_lValue (B : Nat) (q : xrho) (M : xM) (i : Int32) (x : Int64) : xsL (rput B q M) (B + 73) i x = bif xin i 3600 then some (rput B (rupL q 77 i.toNatClampNeg x) M) else none := r_sL B q M (j := 72) (by decide) rfl rfl i x
theorem rg_lKeptMany (B : Nat) (q : xrho) (M : xM) : xgetR (rput B q M) B 12 78 = some (some (B + 74)) := by unfold xgetR; rw [r_get B q M (by decide)]; rfl
theorem ra_lKeptMany (B : Nat) (q : xrho) (M : xM) (i : Int32) : xaI (rput B q M) (B + 74) i = bif xin i 7200 then some (q.1 78 i.toNatClampNeg) else none := r_aI B q M (j := 73) (by decide) rfl rfl i
theorem rs_lKeptMany (B : Nat) (q : xrho) (M : xM) (i : Int32) (x : Int32) : xsI (rput B q M) (B + 74) i x = bif xin i 7200 then some (rput B (rup q 78 i.toNatClampNeg x) M) else none := r_sI B q M (j := 73) (by decide) rfl rfl i x
theorem rg_lKeptCount (B : Nat) (q : xrho) (M : xM) : xgetR (rput B q M) B 12 79 = some (some (B + 75)) := by unfold xgetR; rw [r_get B q M (by decide)]; rfl
theorem ra_lKeptCount (B : Nat) (q : xrho) (M : xM) (i : Int32) : xaI (rput B q M) (B + 75) i = bif xin i 28800 then some (q.1 79 i.toNatClampNeg) else none := r_aI B q M (j := 74) (by decide) rfl rfl i
theorem rs_lKeptCount (B : Nat) (q : xrho) (M : xM) (i : Int32) (x : Int32) : xsI (rput B q M) (B + 75) i x = bif xin i 28800 then some (rput B (rup q 79 i.toNatClampNeg x) M) else none := r_sI B q M (j := 74) (by decide) rfl rfl i x
theorem rg_lKeptSign (B : Nat) (q : xrho) (M : xM) : xgetR (rput B q M) B 12 80 = some (some (B + 76)) := by unfold xgetR; rw [r_get B q M (by decide)]; rfl
theorem ra_lKeptSign (B : Nat) (q : xrho) (M : xM) (i : Int32) : xaI (rput B q M) (B + 76) i = bif xin i 28800 then some (q.1 80 i.toNatClampNeg) else none := r_aI B q M (j := 75) (by decide) rfl rfl i
theorem rs_lKeptSign (B : Nat) (q : xrho) (M : xM) (i : Int32) (x : Int32) : xsI (rput B q M) (B + 76) i x = bif xin i 28800 then some (rput B (rup q 80 i.toNatClampNeg x) M) else none := r_sI B q M (j := 75) (by decide) rfl rfl i x
theorem rg_lKeptValue (B : Nat) (q : xrho) (M : xM) : xgetR (rput B q M) B 12 81 = some (some (B + 77)) := by unfold xgetR; rw [r_get B q M (by decide)]; rfl
theorem ra_lKeptValue (B : Nat) (q : xrho) (M : xM) (i : Int32) : xaL (rput B q M) (B + 77) i = bif xin i 28800 then some (q.2 81 i.toNatClampNeg) else none := r_aL B q M (j := 76) (by decide) rfl rfl i
theorem rs_lKeptValue (B : Nat) (q : xrho) (M : xM) (i : Int32) (x : Int64) : xsL (rput B q M) (B + 77) i x = bif xin i 28800 then some (rput B (rupL q 81 i.toNatClampNeg x) M) else none := r_sL B q M (j := 76) (by decide) rfl rfl i x
theorem rg_letters (B : Nat) (q : xrho) (M : xM) : xgetI (rput B q M) B 12 82 = some (q.1 82 0) := by unfold xgetI; rw [r_get B q M (by decide)]; rfl
theorem rp_letters (B : Nat) (q : xrho) (M : xM) (x : Int32) : xput (rput B q M) B 12 82 (vi x) = some (rput B (rup q 82 0 x) M) := r_pI B q M (by decide) rfl x
theorem rg_doneCaller (B : Nat) (q : xrho) (M : xM) : xgetR (rput B q M) B 12 83 = some (some (B + 78)) := by unfold xgetR; rw [r_get B q M (by decide)]; rfl
theorem ra_doneCaller (B : Nat) (q : xrho) (M : xM) (i : Int32) : xaI (rput B q M) (B + 78) i = bif xin i 4000 then some (q.1 83 i.toNatClampNeg) else none := r_aI B q M (j := 77) (by decide) rfl rfl i
theorem rs_doneCaller (B : Nat) (q : xrho) (M : xM) (i : Int32) (x : Int32) : xsI (rput B q M) (B + 78) i x = bif xin i 4000 then some (rput B (rup q 83 i.toNatClampNeg x) M) else none := r_sI B q M (j := 77) (by decide) rfl rfl i x
theorem rg_doneCount (B : Nat) (q : xrho) (M : xM) : xgetR (rput B q M) B 12 84 = some (some (B + 79)) := by unfold xgetR; rw [r_get B q M (by decide)]; rfl
theorem ra_doneCount (B : Nat) (q : xrho) (M : xM) (i : Int32) : xaI (rput B q M) (B + 79) i = bif xin i 4000 then some (q.1 84 i.toNatClampNeg) else none := r_aI B q M (j := 78) (by decide) rfl rfl i
theorem rs_doneCount (B : Nat) (q : xrho) (M : xM) (i : Int32) (x : Int32) : xsI (rput B q M) (B + 79) i x = bif xin i 4000 then some (rput B (rup q 84 i.toNatClampNeg x) M) else none := r_sI B q M (j := 78) (by decide) rfl rfl i x
theorem rg_doneHost (B : Nat) (q : xrho) (M : xM) : xgetR (rput B q M) B 12 85 = some (some (B + 80)) := by unfold xgetR; rw [r_get B q M (by decide)]; rfl
theorem ra_doneHost (B : Nat) (q : xrho) (M : xM) (i : Int32) : xaI (rput B q M) (B + 80) i = bif xin i 4000 then some (q.1 85 i.toNatClampNeg) else none := r_aI B q M (j := 79) (by decide) rfl rfl i
theorem rs_doneHost (B : Nat) (q : xrho) (M : xM) (i : Int32) (x : Int32) : xsI (rput B q M) (B + 80) i x = bif xin i 4000 then some (rput B (rup q 85 i.toNatClampNeg x) M) else none := r_sI B q M (j := 79) (by decide) rfl rfl i x
theorem rg_doneRange (B : Nat) (q : xrho) (M : xM) : xgetR (rput B q M) B 12 86 = some (some (B + 81)) := by unfold xgetR; rw [r_get B q M (by decide)]; rfl
theorem ra_doneRange (B : Nat) (q : xrho) (M : xM) (i : Int32) : xaI (rput B q M) (B + 81) i = bif xin i 4000 then some (q.1 86 i.toNatClampNeg) else none := r_aI B q M (j := 80) (by decide) rfl rfl i
theorem rs_doneRange (B : Nat) (q : xrho) (M : xM) (i : Int32) (x : Int32) : xsI (rput B q M) (B + 81) i x = bif xin i 4000 then some (rput B (rup q 86 i.toNatClampNeg x) M) else none := r_sI B q M (j := 80) (by decide) rfl rfl i x
theorem rg_doneEpoch (B : Nat) (q : xrho) (M : xM) : xgetR (rput B q M) B 12 87 = some (some (B + 82)) := by unfold xgetR; rw [r_get B q M (by decide)]; rfl
theorem ra_doneEpoch (B : Nat) (q : xrho) (M : xM) (i : Int32) : xaI (rput B q M) (B + 82) i = bif xin i 4000 then some (q.1 87 i.toNatClampNeg) else none := r_aI B q M (j := 81) (by decide) rfl rfl i
theorem rs_doneEpoch (B : Nat) (q : xrho) (M : xM) (i : Int32) (x : Int32) : xsI (rput B q M) (B + 82) i x = bif xin i 4000 then some (rput B (rup q 87 i.toNatClampNeg x) M) else none := r_sI B q M (j := 81) (by decide) rfl rfl i x
theorem rg_done (B : Nat) (q : xrho) (M : xM) : xgetI (rput B q M) B 12 88 = some (q.1 88 0) := by unfold xgetI; rw [r_get B q M (by decide)]; rfl
theorem rp_done (B : Nat) (q : xrho) (M : xM) (x : Int32) : xput (rput B q M) B 12 88 (vi x) = some (rput B (rup q 88 0 x) M) := r_pI B q M (by decide) rfl x
theorem rg_doneValue (B : Nat) (q : xrho) (M : xM) : xgetL (rput B q M) B 12 89 = some (q.2 89 0) := by unfold xgetL; rw [r_get B q M (by decide)]; rfl
theorem rp_doneValue (B : Nat) (q : xrho) (M : xM) (x : Int64) : xput (rput B q M) B 12 89 (vl x) = some (rput B (rupL q 89 0 x) M) := r_pL B q M (by decide) rfl x
theorem rg_doneSign (B : Nat) (q : xrho) (M : xM) : xgetI (rput B q M) B 12 90 = some (q.1 90 0) := by unfold xgetI; rw [r_get B q M (by decide)]; rfl
theorem rp_doneSign (B : Nat) (q : xrho) (M : xM) (x : Int32) : xput (rput B q M) B 12 90 (vi x) = some (rput B (rup q 90 0 x) M) := r_pI B q M (by decide) rfl x
