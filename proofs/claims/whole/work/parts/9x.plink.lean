/-! the protocol of a range, read off the reference's fields -/
def ti (q : xrho) (k i : Nat) : Int := (q.1 k i).toInt
def pmf : Nat → Nat
  | 0 => 60
  | 1 => 61
  | 2 => 62
  | 3 => 64
  | 4 => 67
  | 5 => 68
  | 6 => 69
  | 7 => 70
  | 8 => 71
  | _ => 72
def msg (q : xrho) (l : Nat) : Nat → Int := fun i => ti q (pmf i) l
def pS (q : xrho) (r : Nat) : (Nat → Int) → Prop := fun m => ∃ l, l < nu q 82 0 ∧ q.1 63 l = nI r ∧ m = msg q l
def pvS (q : xrho) (r : Nat) (B : Int) (S : (Nat → Int) → Prop) : Prop := Pin (q.1 2 r = 1) (ti q 8 r) (ti q 5 r) (ti q 6 r) (ti q 7 r) (ti q 10 r) (ti q 11 r) (ti q 9 (4 * r)) (ti q 9 (4 * r + 1)) (ti q 9 (4 * r + 2)) (ti q 9 (4 * r + 3)) (ti q 3 r) (ti q 4 r) (fun h => ti q 15 (40 * h + r)) (fun h => ti q 18 (40 * h + r)) (fun h => ti q 16 (40 * h + r)) (fun h => ti q 17 (40 * h + r)) (fun h => ti q 21 (40 * h + r)) (fun h => ti q 22 (40 * h + r)) (fun h => ti q 23 (40 * h + r)) (fun h => ti q 32 (40 * h + r)) (fun h => ti q 33 (40 * h + r)) (fun h => ti q 28 (40 * h + r)) (fun h => ti q 30 (40 * h + r)) (fun h => ti q 31 (40 * h + r)) B S
abbrev pv (q : xrho) (r : Nat) (B : Int) : Prop := pvS q r B (pS q r)
def pok (q : xrho) (r : Nat) (B : Int) (x : Nat → Int) : Prop := pokM (q.1 2 r = 1) (ti q 8 r) (ti q 5 r) (ti q 6 r) (ti q 7 r) (ti q 10 r) (ti q 11 r) (ti q 9 (4 * r)) (ti q 9 (4 * r + 1)) (ti q 9 (4 * r + 2)) (ti q 9 (4 * r + 3)) (ti q 3 r) (ti q 4 r) (fun h => ti q 15 (40 * h + r)) (fun h => ti q 18 (40 * h + r)) (fun h => ti q 16 (40 * h + r)) (fun h => ti q 17 (40 * h + r)) (fun h => ti q 21 (40 * h + r)) (fun h => ti q 22 (40 * h + r)) (fun h => ti q 23 (40 * h + r)) (fun h => ti q 32 (40 * h + r)) (fun h => ti q 33 (40 * h + r)) (fun h => ti q 28 (40 * h + r)) (fun h => ti q 30 (40 * h + r)) (fun h => ti q 31 (40 * h + r)) B (pS q r) x
def pkf (k : Nat) : Prop := (15 ≤ k ∧ k ≤ 18) ∨ (21 ≤ k ∧ k ≤ 23) ∨ k = 28 ∨ (30 ≤ k ∧ k ≤ 33)
/-- the protocol's fields of range r are the same -/
def sam (q q' : xrho) (r : Nat) : Prop := (∀ k, 2 ≤ k → k < 12 → k ≠ 9 → q'.1 k r = q.1 k r) ∧ (∀ j, j < 4 → q'.1 9 (4 * r + j) = q.1 9 (4 * r + j)) ∧ ∀ k h, pkf k → q'.1 k (40 * h + r) = q.1 k (40 * h + r)
/-- the letters are the same -/
def sal (q q' : xrho) : Prop := (∀ k i, 60 ≤ k → k ≤ 72 → k ≠ 65 → k ≠ 66 → q'.1 k i = q.1 k i) ∧ q'.1 82 0 = q.1 82 0
theorem sam_rf (q : xrho) (r : Nat) : sam q q r := ⟨fun _ _ _ _ => rfl, fun _ _ => rfl, fun _ _ _ => rfl⟩
theorem sam_tr {q q' q'' : xrho} {r : Nat} (a : sam q q' r) (b : sam q' q'' r) : sam q q'' r := ⟨fun k x y z => (b.1 k x y z).trans (a.1 k x y z), fun j x => (b.2.1 j x).trans (a.2.1 j x), fun k h x => (b.2.2 k h x).trans (a.2.2 k h x)⟩
theorem sal_rf (q : xrho) : sal q q := ⟨fun _ _ _ _ _ _ => rfl, rfl⟩
theorem sal_tr {q q' q'' : xrho} (a : sal q q') (b : sal q' q'') : sal q q'' := ⟨fun k i x y z w => (b.1 k i x y z w).trans (a.1 k i x y z w), b.2.trans a.2⟩
theorem pvS_sam {q q' : xrho} {r : Nat} {B : Int} {S : (Nat → Int) → Prop} (e : sam q q' r) (I : pvS q r B S) : pvS q' r B S := by
  obtain ⟨a, b, c⟩ := e
  have c15 := fun h => c 15 h (by unfold pkf; decide)
  have c16 := fun h => c 16 h (by unfold pkf; decide)
  have c17 := fun h => c 17 h (by unfold pkf; decide)
  have c18 := fun h => c 18 h (by unfold pkf; decide)
  have c21 := fun h => c 21 h (by unfold pkf; decide)
  have c22 := fun h => c 22 h (by unfold pkf; decide)
  have c23 := fun h => c 23 h (by unfold pkf; decide)
  have c28 := fun h => c 28 h (by unfold pkf; decide)
  have c30 := fun h => c 30 h (by unfold pkf; decide)
  have c31 := fun h => c 31 h (by unfold pkf; decide)
  have c32 := fun h => c 32 h (by unfold pkf; decide)
  have c33 := fun h => c 33 h (by unfold pkf; decide)
  unfold pvS ti at *
  have b0 := b 0 (by decide)
  rw [Nat.add_zero] at b0
  rw [a 2 (by decide) (by decide) (by decide), a 8 (by decide) (by decide) (by decide), a 5 (by decide) (by decide) (by decide), a 6 (by decide) (by decide) (by decide), a 7 (by decide) (by decide) (by decide), a 10 (by decide) (by decide) (by decide), a 11 (by decide) (by decide) (by decide), a 3 (by decide) (by decide) (by decide), a 4 (by decide) (by decide) (by decide), b0, b 1 (by decide), b 2 (by decide), b 3 (by decide)]
  simp only [c15, c16, c17, c18, c21, c22, c23, c28, c30, c31, c32, c33]
  exact I
theorem pmf_b (i : Nat) : 60 ≤ pmf i ∧ pmf i ≤ 72 ∧ pmf i ≠ 65 ∧ pmf i ≠ 66 := by
  unfold pmf
  split <;> decide
theorem msg_e {q q' : xrho} {l : Nat} (e : ∀ k, 60 ≤ k → k ≤ 72 → k ≠ 65 → k ≠ 66 → q'.1 k l = q.1 k l) : msg q' l = msg q l := funext fun i => by
  have := pmf_b i
  unfold msg ti
  rw [e _ this.1 this.2.1 this.2.2.1 this.2.2.2]
theorem pS_sal {q q' : xrho} (e : sal q q') (r : Nat) : pS q' r = pS q r := funext fun m => by
  unfold pS
  have e82 : nu q' 82 0 = nu q 82 0 := nu_e e.2
  rw [e82]
  refine propext ⟨fun ⟨l, a, b, c⟩ => ⟨l, a, ?_, ?_⟩, fun ⟨l, a, b, c⟩ => ⟨l, a, ?_, ?_⟩⟩
  · rw [← b, e.1 63 l (by decide) (by decide) (by decide) (by decide)]
  · rw [c, msg_e (fun k x y z w => e.1 k l x y z w)]
  · rw [← b, e.1 63 l (by decide) (by decide) (by decide) (by decide)]
  · rw [c, msg_e (fun k x y z w => e.1 k l x y z w)]
theorem pS_nl {q q' : xrho} (e : nlq q (nu q 82 0) q') (hl : nu q 82 0 < 1200) (r : Nat) (m : Nat → Int) : pS q' r m ↔ pS q r m ∨ (q'.1 63 (nu q 82 0) = nI r ∧ m = msg q' (nu q 82 0)) := by
  have n' : nu q' 82 0 = nu q 82 0 + 1 := by
    unfold nu
    rw [e.2.2.2.2.1]
    exact nI_clamp (by omega)
  have ml : ∀ l, l < nu q 82 0 → msg q' l = msg q l := fun l h => msg_e (fun k x y z w => e.2.1 k l x (by omega) (by omega) h)
  have m63 : ∀ l, l < nu q 82 0 → q'.1 63 l = q.1 63 l := fun l h => e.2.1 63 l (by decide) (by decide) (by decide) h
  unfold pS
  rw [n']
  refine ⟨fun ⟨l, a, b, c⟩ => ?_, fun h => ?_⟩
  · by_cases hl' : l < nu q 82 0
    · exact Or.inl ⟨l, hl', by rw [← m63 l hl', b], by rw [c, ml l hl']⟩
    · have : l = nu q 82 0 := by omega
      subst this
      exact Or.inr ⟨b, c⟩
  · rcases h with ⟨l, a, b, c⟩ | ⟨b, c⟩
    · exact ⟨l, by omega, by rw [m63 l a, b], by rw [c, ml l a]⟩
    · exact ⟨nu q 82 0, by omega, b, c⟩
/-- a range that was never made -/
def fresh (q : xrho) (r : Nat) : Prop := (∀ h, q.1 15 (40 * h + r) = 0 ∧ q.1 18 (40 * h + r) = 0 ∧ q.1 22 (40 * h + r) = 0 ∧ q.1 23 (40 * h + r) = 0 ∧ ti q 30 (40 * h + r) ≤ 0) ∧ q.1 8 r = 0 ∧ (∀ j, j < 4 → q.1 9 (4 * r + j) < 0) ∧ (∀ m, pS q r m → m 0 < 3) ∧ q.1 2 r ≠ 1
/-- the protocol of all ranges -/
def PIv (q : xrho) (B : Int) : Prop := (∀ r, r < nu q 12 0 → pv q r B) ∧ ∀ r, nu q 12 0 ≤ r → r < 40 → fresh q r
theorem fresh_sam {q q' : xrho} {r : Nat} (e : sam q q' r) (h : ∀ m, pS q' r m → pS q r m ∨ m 0 < 3) (F : fresh q r) : fresh q' r := by
  obtain ⟨f1, f2, f3, f4, f5⟩ := F
  refine ⟨fun i => ?_, by rw [e.1 8 (by decide) (by decide) (by decide), f2], fun j hj => by rw [e.2.1 j hj]; exact f3 j hj, fun m hm => (h m hm).elim (f4 m) id, by rw [e.1 2 (by decide) (by decide) (by decide)]; exact f5⟩
  have := f1 i
  unfold ti at *
  rw [e.2.2 15 i (by unfold pkf; decide), e.2.2 18 i (by unfold pkf; decide), e.2.2 22 i (by unfold pkf; decide), e.2.2 23 i (by unfold pkf; decide), e.2.2 30 i (by unfold pkf; decide)]
  exact this
theorem pv_raise {q : xrho} {r : Nat} {B B' : Int} {S : (Nat → Int) → Prop} (I : pvS q r B S) (h : B ≤ B') : pvS q r B' S := pt_raise I B' h
/-- what changes one range -/
theorem PIv_1 {q q' : xrho} {B B' : Int} {r : Nat} (I : PIv q B) (hB : B ≤ B') (h12 : q'.1 12 0 = q.1 12 0) (hs : ∀ s, s < 40 → s ≠ r → sam q q' s ∧ pS q' s = pS q s) (n12 : nu q 12 0 ≤ 40) (hr : r < nu q 12 0) (hv : pv q' r B') : PIv q' B' := by
  have n : nu q' 12 0 = nu q 12 0 := nu_e h12
  refine ⟨fun s h => ?_, fun s h1 h2 => ?_⟩
  · rw [n] at h
    by_cases e : s = r
    · rw [e]; exact hv
    · have := hs s (by omega) e
      unfold pv
      rw [this.2]
      exact pv_raise (pvS_sam this.1 (I.1 s h)) hB
  · rw [n] at h1
    have := hs s h2 (by omega)
    exact fresh_sam this.1 (fun m hm => Or.inl (by rw [← this.2]; exact hm)) (I.2 s h1 h2)
/-- what changes no range -/
theorem PIv_0 {q q' : xrho} {B : Int} (I : PIv q B) (h12 : q'.1 12 0 = q.1 12 0) (hs : ∀ s, s < 40 → sam q q' s) (hl : sal q q') (n12 : nu q 12 0 ≤ 40) : PIv q' B := by
  have n : nu q' 12 0 = nu q 12 0 := nu_e h12
  refine ⟨fun s h => ?_, fun s h1 h2 => ?_⟩
  · rw [n] at h
    unfold pv
    rw [pS_sal hl]
    exact pvS_sam (hs s (by omega)) (I.1 s h)
  · rw [n] at h1
    exact fresh_sam (hs s h2) (fun m hm => Or.inl (by rw [← pS_sal hl]; exact hm)) (I.2 s h1 h2)
theorem sam_nl {q q' : xrho} {l : Nat} (e : nlq q l q') (r : Nat) : sam q q' r := ⟨fun k a b c => e.1 k r (by omega) (by omega), fun j hj => e.1 9 _ (by decide) (by decide), fun k h hk => e.1 k _ (by unfold pkf at hk; omega) (by unfold pkf at hk; omega)⟩
/-- a letter more -/
theorem PIv_nl {q q' : xrho} {B : Int} (I : PIv q B) (e : nlq q (nu q 82 0) q') (hl : nu q 82 0 < 1200) (n12 : nu q 12 0 ≤ 40) (ho : ∀ r, r < nu q 12 0 → q'.1 63 (nu q 82 0) = nI r → pok q r B (msg q' (nu q 82 0))) (hf : (∃ r, r < nu q 12 0 ∧ q'.1 63 (nu q 82 0) = nI r) ∨ msg q' (nu q 82 0) 0 < 3) : PIv q' B := by
  have n : nu q' 12 0 = nu q 12 0 := nu_e (e.1 12 0 (by decide) (by decide))
  refine ⟨fun s h => ?_, fun s h1 h2 => ?_⟩
  · rw [n] at h
    unfold pv
    refine pvS_sam (sam_nl e s) ?_
    by_cases c : q'.1 63 (nu q 82 0) = nI s
    · have : pS q' s = fun m => pS q s m ∨ m = msg q' (nu q 82 0) := funext fun m => propext ((pS_nl e hl s m).trans ⟨fun x => x.elim Or.inl (fun y => Or.inr y.2), fun x => x.elim Or.inl (fun y => Or.inr ⟨c, y⟩)⟩)
      rw [this]
      exact pt_add (I.1 s h) _ (ho s h c)
    · have : pS q' s = pS q s := funext fun m => propext ((pS_nl e hl s m).trans ⟨fun x => x.elim id (fun y => absurd y.1 c), Or.inl⟩)
      rw [this]
      exact I.1 s h
  · rw [n] at h1
    refine fresh_sam (sam_nl e s) (fun m hm => ?_) (I.2 s h1 h2)
    rcases (pS_nl e hl s m).mp hm with a | ⟨a, b⟩
    · exact Or.inl a
    · rcases hf with ⟨r, x, y⟩ | hf
      · exfalso
        rw [a, nI_ee (by omega) (by omega)] at y
        omega
      · exact Or.inr (by rw [b]; exact hf)
/-- letters of calls are nothing to the protocol -/
theorem pok_s {q : xrho} {r : Nat} {B : Int} {x : Nat → Int} (h : x 0 < 3) : pok q r B x := by
  unfold pok pokM
  refine ⟨?_, ?_, ?_, ?_, ?_, ?_, ?_, ?_, ?_, ?_, ?_, ?_, ?_, ?_, ?_, ?_, ?_, ?_⟩ <;> intros <;> omega
/-- one field of one holding -/
theorem tu (q : xrho) (k h r : Nat) (x : Int32) (y : Int) (hy : x.toInt = y) : (fun i => ti (rup q k (40 * h + r) x) k (40 * i + r)) = pfu (fun i => ti q k (40 * i + r)) h y := funext fun i => by
  unfold ti pfu
  rw [rup_i]
  by_cases e : i = h
  · rw [if_pos (by omega), if_pos e, hy]
  · rw [if_neg (by omega), if_neg e]
theorem ti_at (q : xrho) (k i : Nat) (x : Int32) : ti (rup q k i x) k i = x.toInt := by
  unfold ti
  rw [rup_at]
theorem rup_y (q : xrho) (k i : Nat) (x : Int32) {f y : Nat} (h : y ≠ i) : (rup q k i x).1 f y = q.1 f y := by rw [rup_r, if_neg (fun e => h e.2)]
theorem rup_f (q : xrho) (k i : Nat) (x : Int32) {f y : Nat} (h : f ≠ k) : (rup q k i x).1 f y = q.1 f y := by rw [rup_r, if_neg (fun e => h e.1)]
theorem ti_add {x : Int32} (h : x.toInt < 2147483647) : (x + nI 1).toInt = x.toInt + 1 := by
  have h1 := x.minValue_le_toInt
  have e : (nI 1).toInt = 1 := nI_toInt (by decide)
  rw [Int32.toInt_add, e]
  refine Int.bmod_eq_of_le ?_ ?_
  · have : Int32.minValue.toInt = -2147483648 := by decide
    omega
  · omega
theorem ti_sub {x : Int32} (h : 0 ≤ x.toInt) : (x - nI 1).toInt = x.toInt - 1 := by
  have h1 := x.toInt_le
  have e : (nI 1).toInt = 1 := nI_toInt (by decide)
  rw [Int32.toInt_sub, e]
  refine Int.bmod_eq_of_le ?_ ?_
  · omega
  · have : Int32.maxValue.toInt = 2147483647 := by decide
    omega
theorem ti_e {x y : Int32} : x.toInt = y.toInt ↔ x = y := Int32.toInt_inj
