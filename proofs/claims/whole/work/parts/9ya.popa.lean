/-! the protocol is kept: a host falls -/
theorem V_fal (h : Nat) (B0 : Int) : ∀ (m r : Nat) (q : xrho) (n : Nat) (B : Int), r + m ≤ 40 → nu q 12 0 ≤ 40 → PIv q B → PIv (gfal h r m q n).1 (B + 2 * m) ∧ nu (gfal h r m q n).1 12 0 = nu q 12 0
  | 0, _, q, n, B, _, _, I => ⟨raise2 I (by omega), rfl⟩
  | m + 1, r, q, n, B, hr, n12, I => by
    unfold gfal
    by_cases c : q.1 15 (40 * h + r) = nI 4
    · rw [if_pos c]
      have hr' : r < nu q 12 0 := Classical.byContradiction fun hc => by
        have := ((I.2 r (by omega) (by omega)).1 h).1
        rw [c] at this
        exact absurd this (by decide)
      have e12 : nu (rup q 15 (40 * h + r) (nI 0)) 12 0 = nu q 12 0 := nu_e (by simp (disch := omega) only [rup_f])
      have z := V_fal h B0 m (r + 1) (rup q 15 (40 * h + r) (nI 0)) (n + 1) (B + 2) (by omega) (by omega) (V_drop I n12 hr' (Or.inl c))
      exact ⟨raise2 z.1 (by omega), z.2.trans e12⟩
    · rw [if_neg c]
      have z := V_fal h B0 m (r + 1) q n B (by omega) n12 I
      exact ⟨raise2 z.1 (by omega), z.2⟩
/-- one range loses its span to another, or gets a wider or smaller one -/
theorem V_rsz {q q1 : xrho} {B : Int} {r : Nat} {y lo hi : Int} (I : PIv q B) (hr : r < nu q 12 0) (h6 : isN q 6 r 5) (free : gfree q r (nu q 6 r)) (hy : ti q 5 r < y) (hyB : y ≤ B + 2) (hv : ∀ S, Pin (q.1 2 r = 1) (ti q 8 r) y (ti q 6 r) (ti q 7 r) (ti q 10 r) (ti q 11 r) (ti q 9 (4 * r)) (ti q 9 (4 * r + 1)) (ti q 9 (4 * r + 2)) (ti q 9 (4 * r + 3)) lo hi (fun h => ti q 15 (40 * h + r)) (pfu (fun h => ti q 18 (40 * h + r)) (nu q 6 r) y) (pfu (fun h => ti q 16 (40 * h + r)) (nu q 6 r) lo) (pfu (fun h => ti q 17 (40 * h + r)) (nu q 6 r) hi) (fun h => ti q 21 (40 * h + r)) (fun h => ti q 22 (40 * h + r)) (fun h => ti q 23 (40 * h + r)) (fun h => ti q 32 (40 * h + r)) (fun h => ti q 33 (40 * h + r)) (fun h => ti q 28 (40 * h + r)) (fun h => ti q 30 (40 * h + r)) (fun h => ti q 31 (40 * h + r)) (B + 2) S → pvS q1 r (B + 2) S) : pvS q1 r (B + 2) (pS q r) := by
  obtain ⟨f1, f2, f3⟩ := gfr_t free
  have h6' : ti q 6 r = nu q 6 r := ti_k h6.1 (by have := h6.2; omega)
  exact hv _ (pt_resize (I.1 r hr) (nu q 6 r) y lo hi h6'.symm f1 f2 f3 hy hyB)
/-! what touches none of the protocol's fields -/
theorem V_rup {q : xrho} {B : Int} {k i : Nat} {x : Int32} (I : PIv q B) (n12 : nu q 12 0 ≤ 40) (hk : k = 0 ∨ k = 1 ∨ k = 13 ∨ k = 14 ∨ k = 29 ∨ (34 ≤ k ∧ k < 60) ∨ k = 65 ∨ k = 66 ∨ (73 ≤ k ∧ k ≠ 82)) : PIv (rup q k i x) B := PIv_0 I (rup_f _ _ _ _ (by omega)) (fun s hs => ⟨fun j _ _ _ => rup_f _ _ _ _ (by omega), fun j _ => rup_f _ _ _ _ (by omega), fun j h hj => by unfold pkf at hj; exact rup_f _ _ _ _ (by omega)⟩) ⟨fun j h _ _ _ _ => rup_f _ _ _ _ (by omega), rup_f _ _ _ _ (by omega)⟩ n12
theorem V_ref {q : xrho} {B : Int} {k : Nat} (I : PIv q B) (n12 : nu q 12 0 ≤ 40) : PIv (gref q k) B := V_rup I n12 (Or.inr (Or.inl rfl))
/-- a letter of a call -/
theorem V_cl {q q' : xrho} {B : Int} (I : PIv q B) (n12 : nu q 12 0 ≤ 40) (hl : nu q 82 0 < 1200) (e : nlq q (nu q 82 0) q') (hk : ti q' 60 (nu q 82 0) < 3) : PIv q' B := PIv_nl I e hl n12 (fun _ _ _ => pok_s hk) (Or.inr hk)
