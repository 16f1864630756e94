/-! THE REFERENCE'S CONSTRUCTOR -/
def q00 : xrho := (fun _ _ => 0, fun _ _ => 0)
def szs (j : Nat) : Nat := ((List.range j).map (fun i => (rinf (rslot i)).2.1)).sum
def fld (B j : Nat) : List xV := (List.range 91).map (fun k => if (rinf k).1 < 3 then (if (rinf k).2.2 < j then vr (some (B + 1 + (rinf k).2.2)) else vr none) else rfv B q00 k)
def stR (B : Nat) (M : xM) (j : Nat) : xM := (B + 1 + j, M.2.1 + 91 + szs j, fun a => if a = B then .inr (12, fld B j) else if B < a ∧ a < B + 1 + j then rarr q00 (rslot (a - B - 1)) else M.2.2 a)
theorem r_back : (List.range 91).all (fun k => !(Nat.blt (rinf k).1 3) || Nat.beq (rslot (rinf k).2.2) k) = true := by decide +kernel
theorem r_bk {k : Nat} (h : k < 91) (h2 : (rinf k).1 < 3) : rslot (rinf k).2.2 = k := by
  have := List.all_eq_true.mp r_back k (List.mem_range.mpr h)
  have e : Nat.blt (rinf k).1 3 = true := by simp [Nat.blt]; omega
  rw [e] at this
  exact Nat.eq_of_beq_eq_true (by simpa using this)
theorem r_size : (List.range 82).all (fun j => Nat.ble (rinf (rslot j)).2.1 1000000) = true := by decide +kernel
theorem szs_s (j : Nat) : szs (j + 1) = szs j + (rinf (rslot j)).2.1 := by
  unfold szs
  rw [List.range_succ, List.map_append, List.sum_append]
  simp
theorem fld_0 (B : Nat) : xdef 12 = fld B 0 := rfl
theorem fld_at (B j k : Nat) (h : k < (fld B j).length) : (fld B j)[k] = if (rinf k).1 < 3 then (if (rinf k).2.2 < j then vr (some (B + 1 + (rinf k).2.2)) else vr none) else rfv B q00 k := by
  simp only [fld, List.getElem_map, List.getElem_range]
theorem fld_s (B : Nat) {j : Nat} (hj : j < 82) : (fld B j).set (rslot j) (vr (some (B + 1 + j))) = fld B (j + 1) := by
  obtain ⟨s1, s2, s3⟩ := r_slot hj
  have ll : ∀ i, (fld B i).length = 91 := fun i => by unfold fld; rw [List.length_map, List.length_range]
  apply List.ext_getElem
  · rw [List.length_set, ll, ll]
  · intro k h1 h2
    have hk : k < 91 := by rw [ll] at h2; exact h2
    rw [List.getElem_set]
    split
    · next e =>
      rw [fld_at, ← e, if_pos s2, s3, if_pos (by omega)]
    · next e =>
      rw [fld_at, fld_at]
      split
      · next e3 =>
        have hne : (rinf k).2.2 ≠ j := fun e4 => e (by rw [← e4]; exact r_bk hk e3)
        by_cases c : (rinf k).2.2 < j
        · rw [if_pos c, if_pos (by omega)]
        · rw [if_neg c, if_neg (by omega)]
      · rfl
theorem st_s {B : Nat} {M : xM} {j t n k : Nat} {x : Int32} {β : Type} (f : xM → Option β) (hj : j < 82) (hk : rslot j = k) (ht : (rinf k).1 = t) (hn : (rinf k).2.1 = n) (hx : x = nI n) : (xnewA (stR B M j) t x).bind (fun M_1 => (xput M_1 B 12 k (vr (some (stR B M j).1))).bind f) = f (stR B M (j + 1)) := by
  subst hk
  subst ht
  subst hn
  subst hx
  obtain ⟨s1, s2, s3⟩ := r_slot hj
  have sz : (rinf (rslot j)).2.1 ≤ 1000000 := by
    have := List.all_eq_true.mp r_size j (List.mem_range.mpr hj)
    exact Nat.le_of_ble_eq_true this
  have cl : (nI (rinf (rslot j)).2.1).toNatClampNeg = (rinf (rslot j)).2.1 := nI_clamp (by omega)
  have ng : ¬ nI (rinf (rslot j)).2.1 < 0 := by rw [ti_lt0, nI_toInt (by omega)]; omega
  have e1 : xnewA (stR B M j) (rinf (rslot j)).1 (nI (rinf (rslot j)).2.1) = some (B + 1 + (j + 1), M.2.1 + 91 + szs (j + 1), va_up (stR B M j).2.2 (B + 1 + j) (.inl ((rinf (rslot j)).1, (rinf (rslot j)).2.1, xA0 (rinf (rslot j)).1))) := by
    unfold xnewA
    rw [cl, decide_eq_false ng, (Nat.ble_eq.mpr sz : Nat.ble _ _ = true), szs_s, ← Nat.add_assoc (M.2.1 + 91)]
    rfl
  rw [e1, Option.bind_some]
  have e2 : (va_up (stR B M j).2.2 (B + 1 + j) (.inl ((rinf (rslot j)).1, (rinf (rslot j)).2.1, xA0 (rinf (rslot j)).1))) B = .inr (12, fld B j) := by
    rw [va_up_ne _ _ (by omega)]
    show (if B = B then _ else _) = _
    rw [if_pos rfl]
  have e3 : xput (B + 1 + (j + 1), M.2.1 + 91 + szs (j + 1), va_up (stR B M j).2.2 (B + 1 + j) (.inl ((rinf (rslot j)).1, (rinf (rslot j)).2.1, xA0 (rinf (rslot j)).1))) B 12 (rslot j) (vr (some (stR B M j).1)) = some (stR B M (j + 1)) := by
    unfold xput
    simp only [e2]
    have ll : (fld B j).length = 91 := by unfold fld; rw [List.length_map, List.length_range]
    have lt : Nat.blt (rslot j) (fld B j).length = true := by rw [ll]; simp [Nat.blt]; omega
    rw [lt, show (stR B M j).1 = B + 1 + j from rfl, fld_s B hj]
    show some (xset _ B _) = _
    unfold xset
    refine congrArg some (Prod.ext rfl (Prod.ext rfl (funext fun a => ?_)))
    show va_up (va_up (stR B M j).2.2 (B + 1 + j) _) B _ a = (stR B M (j + 1)).2.2 a
    by_cases c : a = B
    · rw [c, va_up_self]
      show _ = if B = B then _ else _
      rw [if_pos rfl]
    · rw [va_up_ne _ _ c]
      show _ = if a = B then _ else if B < a ∧ a < B + 1 + (j + 1) then rarr q00 (rslot (a - B - 1)) else M.2.2 a
      rw [if_neg c]
      by_cases c2 : a = B + 1 + j
      · rw [c2, va_up_self, if_pos (by omega), show B + 1 + j - B - 1 = j by omega]
        unfold rarr
        have : (rinf (rslot j)).1 = 0 ∨ (rinf (rslot j)).1 = 1 ∨ (rinf (rslot j)).1 = 2 := by omega
        rcases this with e | e | e <;> rw [e] <;> rfl
      · rw [va_up_ne _ _ c2]
        show (if a = B then _ else if B < a ∧ a < B + 1 + j then rarr q00 (rslot (a - B - 1)) else M.2.2 a) = _
        rw [if_neg c]
        by_cases c3 : B < a ∧ a < B + 1 + j
        · rw [if_pos c3, if_pos (by omega)]
        · rw [if_neg c3, if_neg (by omega)]
  rw [e3, Option.bind_some]
theorem st_0 (M : xM) : xnewO M 12 = stR M.1 M 0 := by
  unfold xnewO
  refine Prod.ext rfl (Prod.ext rfl (funext fun a => ?_))
  show va_up M.2.2 M.1 (.inr (12, xdef 12)) a = if a = M.1 then .inr (12, fld M.1 0) else if M.1 < a ∧ a < M.1 + 1 + 0 then rarr q00 (rslot (a - M.1 - 1)) else M.2.2 a
  by_cases c : a = M.1
  · rw [c, va_up_self, if_pos rfl, fld_0 M.1]
  · rw [va_up_ne _ _ c, if_neg c, if_neg (by omega)]
theorem st_82 (B : Nat) (M : xM) : stR B M 82 = rput B q00 (B + 83, M.2.1 + 91 + szs 82, M.2.2) := by
  unfold rput
  refine Prod.ext (by show B + 1 + 82 = B + 83; omega) (Prod.ext rfl (funext fun a => ?_))
  show (if a = B then .inr (12, fld B 82) else if B < a ∧ a < B + 1 + 82 then rarr q00 (rslot (a - B - 1)) else M.2.2 a) = if B ≤ a ∧ a < B + 83 then rcell B q00 (a - B) else M.2.2 a
  by_cases c : a = B
  · rw [if_pos c, if_pos (by omega), c, Nat.sub_self]
    rfl
  · rw [if_neg c]
    by_cases c2 : B < a ∧ a < B + 1 + 82
    · rw [if_pos c2, if_pos (by omega)]
      obtain ⟨i, hi⟩ : ∃ i, a - B = i + 1 := ⟨a - B - 1, by omega⟩
      rw [hi, show i + 1 - 1 = i by omega]
      rfl
    · rw [if_neg c2, if_neg (by omega)]
set_option maxRecDepth 100000 in
set_option maxHeartbeats 4000000 in
theorem c_new0 {T0 MI : Nat} {M : xM} {o1 : Option xV} : xZ T0 MI 123 0 [some (vr (some M.1)), o1] [] (xnewO M 12) = xZ T0 MI 123 726 [some (vr (some M.1)), some (vi (Int32.ofInt 0))] [] (rput M.1 q00 (M.1 + 83, M.2.1 + 91 + szs 82, M.2.2)) := by
  rw [bq_123_0, st_0]
  refine (st_s (j := 0) (t := 2) (n := 6) (k := 0) _ (by decide) rfl rfl rfl (by decide)).trans ?_
  refine (st_s (j := 1) (t := 0) (n := 7) (k := 1) _ (by decide) rfl rfl rfl (by decide)).trans ?_
  refine (st_s (j := 2) (t := 2) (n := 40) (k := 2) _ (by decide) rfl rfl rfl (by decide)).trans ?_
  refine (st_s (j := 3) (t := 0) (n := 40) (k := 3) _ (by decide) rfl rfl rfl (by decide)).trans ?_
  refine (st_s (j := 4) (t := 0) (n := 40) (k := 4) _ (by decide) rfl rfl rfl (by decide)).trans ?_
  refine (st_s (j := 5) (t := 0) (n := 40) (k := 5) _ (by decide) rfl rfl rfl (by decide)).trans ?_
  refine (st_s (j := 6) (t := 0) (n := 40) (k := 6) _ (by decide) rfl rfl rfl (by decide)).trans ?_
  refine (st_s (j := 7) (t := 0) (n := 40) (k := 7) _ (by decide) rfl rfl rfl (by decide)).trans ?_
  refine (st_s (j := 8) (t := 0) (n := 40) (k := 8) _ (by decide) rfl rfl rfl (by decide)).trans ?_
  refine (st_s (j := 9) (t := 0) (n := 160) (k := 9) _ (by decide) rfl rfl rfl (by decide)).trans ?_
  refine (st_s (j := 10) (t := 0) (n := 40) (k := 10) _ (by decide) rfl rfl rfl (by decide)).trans ?_
  refine (st_s (j := 11) (t := 0) (n := 40) (k := 11) _ (by decide) rfl rfl rfl (by decide)).trans ?_
  refine (st_s (j := 12) (t := 0) (n := 240) (k := 15) _ (by decide) rfl rfl rfl (by decide)).trans ?_
  refine (st_s (j := 13) (t := 0) (n := 240) (k := 16) _ (by decide) rfl rfl rfl (by decide)).trans ?_
  refine (st_s (j := 14) (t := 0) (n := 240) (k := 17) _ (by decide) rfl rfl rfl (by decide)).trans ?_
  refine (st_s (j := 15) (t := 0) (n := 240) (k := 18) _ (by decide) rfl rfl rfl (by decide)).trans ?_
  refine (st_s (j := 16) (t := 0) (n := 240) (k := 19) _ (by decide) rfl rfl rfl (by decide)).trans ?_
  refine (st_s (j := 17) (t := 0) (n := 14400) (k := 20) _ (by decide) rfl rfl rfl (by decide)).trans ?_
  refine (st_s (j := 18) (t := 0) (n := 240) (k := 21) _ (by decide) rfl rfl rfl (by decide)).trans ?_
  refine (st_s (j := 19) (t := 0) (n := 240) (k := 22) _ (by decide) rfl rfl rfl (by decide)).trans ?_
  refine (st_s (j := 20) (t := 0) (n := 240) (k := 23) _ (by decide) rfl rfl rfl (by decide)).trans ?_
  refine (st_s (j := 21) (t := 0) (n := 240) (k := 24) _ (by decide) rfl rfl rfl (by decide)).trans ?_
  refine (st_s (j := 22) (t := 0) (n := 240) (k := 25) _ (by decide) rfl rfl rfl (by decide)).trans ?_
  refine (st_s (j := 23) (t := 0) (n := 120000) (k := 26) _ (by decide) rfl rfl rfl (by decide)).trans ?_
  refine (st_s (j := 24) (t := 1) (n := 14400) (k := 27) _ (by decide) rfl rfl rfl (by decide)).trans ?_
  refine (st_s (j := 25) (t := 0) (n := 240) (k := 28) _ (by decide) rfl rfl rfl (by decide)).trans ?_
  refine (st_s (j := 26) (t := 0) (n := 240) (k := 29) _ (by decide) rfl rfl rfl (by decide)).trans ?_
  refine (st_s (j := 27) (t := 0) (n := 240) (k := 30) _ (by decide) rfl rfl rfl (by decide)).trans ?_
  refine (st_s (j := 28) (t := 0) (n := 240) (k := 31) _ (by decide) rfl rfl rfl (by decide)).trans ?_
  refine (st_s (j := 29) (t := 2) (n := 240) (k := 32) _ (by decide) rfl rfl rfl (by decide)).trans ?_
  refine (st_s (j := 30) (t := 2) (n := 240) (k := 33) _ (by decide) rfl rfl rfl (by decide)).trans ?_
  refine (st_s (j := 31) (t := 0) (n := 1440) (k := 34) _ (by decide) rfl rfl rfl (by decide)).trans ?_
  refine (st_s (j := 32) (t := 0) (n := 5760) (k := 35) _ (by decide) rfl rfl rfl (by decide)).trans ?_
  refine (st_s (j := 33) (t := 0) (n := 5760) (k := 36) _ (by decide) rfl rfl rfl (by decide)).trans ?_
  refine (st_s (j := 34) (t := 1) (n := 5760) (k := 37) _ (by decide) rfl rfl rfl (by decide)).trans ?_
  refine (st_s (j := 35) (t := 0) (n := 1200) (k := 38) _ (by decide) rfl rfl rfl (by decide)).trans ?_
  refine (st_s (j := 36) (t := 0) (n := 1200) (k := 39) _ (by decide) rfl rfl rfl (by decide)).trans ?_
  refine (st_s (j := 37) (t := 0) (n := 1200) (k := 40) _ (by decide) rfl rfl rfl (by decide)).trans ?_
  refine (st_s (j := 38) (t := 0) (n := 1200) (k := 41) _ (by decide) rfl rfl rfl (by decide)).trans ?_
  refine (st_s (j := 39) (t := 0) (n := 1200) (k := 42) _ (by decide) rfl rfl rfl (by decide)).trans ?_
  refine (st_s (j := 40) (t := 0) (n := 1200) (k := 43) _ (by decide) rfl rfl rfl (by decide)).trans ?_
  refine (st_s (j := 41) (t := 0) (n := 6) (k := 46) _ (by decide) rfl rfl rfl (by decide)).trans ?_
  refine (st_s (j := 42) (t := 0) (n := 360) (k := 47) _ (by decide) rfl rfl rfl (by decide)).trans ?_
  refine (st_s (j := 43) (t := 0) (n := 360) (k := 48) _ (by decide) rfl rfl rfl (by decide)).trans ?_
  refine (st_s (j := 44) (t := 0) (n := 360) (k := 49) _ (by decide) rfl rfl rfl (by decide)).trans ?_
  refine (st_s (j := 45) (t := 0) (n := 360) (k := 50) _ (by decide) rfl rfl rfl (by decide)).trans ?_
  refine (st_s (j := 46) (t := 1) (n := 360) (k := 51) _ (by decide) rfl rfl rfl (by decide)).trans ?_
  refine (st_s (j := 47) (t := 1) (n := 360) (k := 52) _ (by decide) rfl rfl rfl (by decide)).trans ?_
  refine (st_s (j := 48) (t := 1) (n := 360) (k := 53) _ (by decide) rfl rfl rfl (by decide)).trans ?_
  refine (st_s (j := 49) (t := 2) (n := 360) (k := 54) _ (by decide) rfl rfl rfl (by decide)).trans ?_
  refine (st_s (j := 50) (t := 0) (n := 60000) (k := 55) _ (by decide) rfl rfl rfl (by decide)).trans ?_
  refine (st_s (j := 51) (t := 0) (n := 60000) (k := 56) _ (by decide) rfl rfl rfl (by decide)).trans ?_
  refine (st_s (j := 52) (t := 0) (n := 60000) (k := 57) _ (by decide) rfl rfl rfl (by decide)).trans ?_
  refine (st_s (j := 53) (t := 0) (n := 60000) (k := 58) _ (by decide) rfl rfl rfl (by decide)).trans ?_
  refine (st_s (j := 54) (t := 0) (n := 60000) (k := 59) _ (by decide) rfl rfl rfl (by decide)).trans ?_
  refine (st_s (j := 55) (t := 0) (n := 1200) (k := 60) _ (by decide) rfl rfl rfl (by decide)).trans ?_
  refine (st_s (j := 56) (t := 0) (n := 1200) (k := 61) _ (by decide) rfl rfl rfl (by decide)).trans ?_
  refine (st_s (j := 57) (t := 0) (n := 1200) (k := 62) _ (by decide) rfl rfl rfl (by decide)).trans ?_
  refine (st_s (j := 58) (t := 0) (n := 1200) (k := 63) _ (by decide) rfl rfl rfl (by decide)).trans ?_
  refine (st_s (j := 59) (t := 0) (n := 1200) (k := 64) _ (by decide) rfl rfl rfl (by decide)).trans ?_
  refine (st_s (j := 60) (t := 0) (n := 1200) (k := 65) _ (by decide) rfl rfl rfl (by decide)).trans ?_
  refine (st_s (j := 61) (t := 0) (n := 1200) (k := 66) _ (by decide) rfl rfl rfl (by decide)).trans ?_
  refine (st_s (j := 62) (t := 0) (n := 1200) (k := 67) _ (by decide) rfl rfl rfl (by decide)).trans ?_
  refine (st_s (j := 63) (t := 0) (n := 1200) (k := 68) _ (by decide) rfl rfl rfl (by decide)).trans ?_
  refine (st_s (j := 64) (t := 0) (n := 1200) (k := 69) _ (by decide) rfl rfl rfl (by decide)).trans ?_
  refine (st_s (j := 65) (t := 0) (n := 1200) (k := 70) _ (by decide) rfl rfl rfl (by decide)).trans ?_
  refine (st_s (j := 66) (t := 0) (n := 1200) (k := 71) _ (by decide) rfl rfl rfl (by decide)).trans ?_
  refine (st_s (j := 67) (t := 0) (n := 1200) (k := 72) _ (by decide) rfl rfl rfl (by decide)).trans ?_
  refine (st_s (j := 68) (t := 0) (n := 1200) (k := 73) _ (by decide) rfl rfl rfl (by decide)).trans ?_
  refine (st_s (j := 69) (t := 0) (n := 3600) (k := 74) _ (by decide) rfl rfl rfl (by decide)).trans ?_
  refine (st_s (j := 70) (t := 2) (n := 1200) (k := 75) _ (by decide) rfl rfl rfl (by decide)).trans ?_
  refine (st_s (j := 71) (t := 2) (n := 3600) (k := 76) _ (by decide) rfl rfl rfl (by decide)).trans ?_
  refine (st_s (j := 72) (t := 1) (n := 3600) (k := 77) _ (by decide) rfl rfl rfl (by decide)).trans ?_
  refine (st_s (j := 73) (t := 0) (n := 7200) (k := 78) _ (by decide) rfl rfl rfl (by decide)).trans ?_
  refine (st_s (j := 74) (t := 0) (n := 28800) (k := 79) _ (by decide) rfl rfl rfl (by decide)).trans ?_
  refine (st_s (j := 75) (t := 0) (n := 28800) (k := 80) _ (by decide) rfl rfl rfl (by decide)).trans ?_
  refine (st_s (j := 76) (t := 1) (n := 28800) (k := 81) _ (by decide) rfl rfl rfl (by decide)).trans ?_
  refine (st_s (j := 77) (t := 0) (n := 4000) (k := 83) _ (by decide) rfl rfl rfl (by decide)).trans ?_
  refine (st_s (j := 78) (t := 0) (n := 4000) (k := 84) _ (by decide) rfl rfl rfl (by decide)).trans ?_
  refine (st_s (j := 79) (t := 0) (n := 4000) (k := 85) _ (by decide) rfl rfl rfl (by decide)).trans ?_
  refine (st_s (j := 80) (t := 0) (n := 4000) (k := 86) _ (by decide) rfl rfl rfl (by decide)).trans ?_
  refine (st_s (j := 81) (t := 0) (n := 4000) (k := 87) _ (by decide) rfl rfl rfl (by decide)).trans ?_
  rw [st_82]
