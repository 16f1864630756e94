/-! the protocol is kept: a host falls -/
theorem V_fal (h : Nat) (B0 : Int) : ∀ (m r : Nat) (q : xrho) (n : Nat) (B : Int), r + m ≤ 40 → nu q 12 0 ≤ 40 → PIv q B → PIv (gfal h r m q n).1 (B + 2 * m) ∧ nu (gfal h r m q n).1 12 0 = nu q 12 0
  | 0, _, q, n, B, _, _, I => ⟨raise2 I (by omega), rfl⟩
  | m + 1, r, q, n, B, hr, n12, I => by
    unfold gfal
    by_cases c : q.1 15 (40 * h + r) = nI 4
    · rw [if_pos c]
      have hr' : r < nu q 12 0 := Classical.byContradiction fun hc => by
        have := ((I.2 r (by omega) (by omega)).1 h).1
        rw [c] at this
        exact absurd this (by decide)
      have e12 : nu (rup q 15 (40 * h + r) (nI 0)) 12 0 = nu q 12 0 := nu_e (by simp (disch := omega) only [rup_f])
      have z := V_fal h B0 m (r + 1) (rup q 15 (40 * h + r) (nI 0)) (n + 1) (B + 2) (by omega) (by omega) (V_drop I n12 hr' (Or.inl c))
      exact ⟨raise2 z.1 (by omega), z.2.trans e12⟩
    · rw [if_neg c]
      have z := V_fal h B0 m (r + 1) q n B (by omega) n12 I
      exact ⟨raise2 z.1 (by omega), z.2⟩
