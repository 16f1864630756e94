/-! the book's spans; what a copy is after learning -/
def bkOK (q : xrho) : Prop := (∀ r, r < 40 → q.1 2 r = 0 ∨ q.1 2 r = 1) ∧ (∀ r, r < nu q 12 0 → okSp q r) ∧ (∀ r, r < 40 → q.1 2 r = 1 → r < nu q 12 0 ∧ nu q 3 r < nu q 4 r) ∧ (∀ r s, r < 40 → s < 40 → r ≠ s → q.1 2 r = 1 → q.1 2 s = 1 → nu q 4 r ≤ nu q 3 s ∨ nu q 4 s ≤ nu q 3 r) ∧ (∀ k, k < 10000 → ∃ r, r < 40 ∧ q.1 2 r = 1 ∧ nu q 3 r ≤ k ∧ k < nu q 4 r) ∧ (∀ r, r < 40 → isN q 6 r 5) ∧ isN q 12 0 40
abbrev bkH (q : xrho) (r k : Nat) : Prop := q.1 2 r ≠ 0 ∧ nu q 3 r ≤ k ∧ k < nu q 4 r
theorem cps_5 {q : xrho} {a z x : Nat} {r e h lo hi : Int32} : (cps q a z r e h lo hi).1 55 x = (if a ≤ x ∧ x < z then r else q.1 55 x) ∧ (cps q a z r e h lo hi).1 56 x = (if a ≤ x ∧ x < z then e else q.1 56 x) ∧ (cps q a z r e h lo hi).1 57 x = (if a ≤ x ∧ x < z then h else q.1 57 x) ∧ (cps q a z r e h lo hi).1 58 x = (if a ≤ x ∧ x < z then lo else q.1 58 x) ∧ (cps q a z r e h lo hi).1 59 x = (if a ≤ x ∧ x < z then hi else q.1 59 x) := by
  obtain ⟨f1, f2, f3, f4, f5⟩ := cps_55 q a z r e h lo hi
  rw [f1, f2, f3, f4, f5]
  exact ⟨rfl, rfl, rfl, rfl, rfl⟩
theorem cps_out {q : xrho} {a z x k : Nat} {r e h lo hi : Int32} (hx : ¬ (a ≤ x ∧ x < z)) : (cps q a z r e h lo hi).1 k x = q.1 k x := by
  by_cases hk : k < 55 ∨ 60 ≤ k
  · rw [cps_ne _ _ _ _ _ _ _ _ hk]
  · obtain ⟨f1, f2, f3, f4, f5⟩ := @cps_5 q a z x r e h lo hi
    have : k = 55 ∨ k = 56 ∨ k = 57 ∨ k = 58 ∨ k = 59 := by omega
    rcases this with rfl | rfl | rfl | rfl | rfl
    · rw [f1, if_neg hx]
    · rw [f2, if_neg hx]
    · rw [f3, if_neg hx]
    · rw [f4, if_neg hx]
    · rw [f5, if_neg hx]
theorem glearn_2 (c : Nat) : ∀ m r q, (glearn c r m q).2 = q.2
  | 0, _, _ => rfl
  | m + 1, r, q => by
    unfold glearn
    rw [glearn_2 c m]
    split
    · rfl
    · rfl
theorem glearn_o (c : Nat) : ∀ m r (q : xrho) k x, (∀ s, r ≤ s → s < r + m → q.1 2 s ≠ 0 → ¬ (10000 * c + nu q 3 s ≤ x ∧ x < 10000 * c + nu q 4 s)) → (glearn c r m q).1 k x = q.1 k x
  | 0, _, _, _, _, _ => rfl
  | m + 1, r, q, k, x, h => by
    unfold glearn
    by_cases h2 : q.1 2 r = 0
    · rw [if_pos h2]
      exact glearn_o c m (r + 1) q k x (fun s h1 h3 => h s (by omega) (by omega))
    · rw [if_neg h2, glearn_o c m (r + 1) _ k x (fun s h1 h3 h4 => ?_)]
      · exact cps_out (h r (Nat.le_refl _) (by omega) h2)
      · have := h s (by omega) (by omega)
        unfold nu at this ⊢
        rw [cps_ne _ _ _ _ _ _ _ _ (by decide)] at h4 ⊢
        rw [cps_ne _ _ _ _ _ _ _ _ (by decide)]
        exact this h4
theorem glearn_i (c : Nat) : ∀ m r (q : xrho) s0 k, r ≤ s0 → s0 < r + m → bkH q s0 k → (∀ s, r ≤ s → s < r + m → bkH q s k → s = s0) → (glearn c r m q).1 55 (10000 * c + k) = nI s0 ∧ (glearn c r m q).1 56 (10000 * c + k) = q.1 5 s0 ∧ (glearn c r m q).1 57 (10000 * c + k) = q.1 6 s0 ∧ (glearn c r m q).1 58 (10000 * c + k) = q.1 3 s0 ∧ (glearn c r m q).1 59 (10000 * c + k) = q.1 4 s0
  | 0, r, q, s0, k, h1, h2, _, _ => by omega
  | m + 1, r, q, s0, k, h1, h2, h3, h4 => by
    unfold glearn
    by_cases e : s0 = r
    · subst e
      rw [if_neg h3.1]
      have o : ∀ f, (glearn c (s0 + 1) m (cps q (10000 * c + (q.1 3 s0).toNatClampNeg) (10000 * c + (q.1 4 s0).toNatClampNeg) (nI s0) (q.1 5 s0) (q.1 6 s0) (q.1 3 s0) (q.1 4 s0))).1 f (10000 * c + k) = (cps q (10000 * c + (q.1 3 s0).toNatClampNeg) (10000 * c + (q.1 4 s0).toNatClampNeg) (nI s0) (q.1 5 s0) (q.1 6 s0) (q.1 3 s0) (q.1 4 s0)).1 f (10000 * c + k) := fun f => by
        refine glearn_o c m (s0 + 1) _ f _ (fun s a b d e2 => ?_)
        unfold nu at e2
        rw [cps_ne _ _ _ _ _ _ _ _ (by decide)] at d e2
        rw [cps_ne _ _ _ _ _ _ _ _ (by decide)] at e2
        have := h4 s (by omega) (by omega) ⟨d, by unfold nu; omega, by unfold nu; omega⟩
        omega
      have hc : 10000 * c + (q.1 3 s0).toNatClampNeg ≤ 10000 * c + k ∧ 10000 * c + k < 10000 * c + (q.1 4 s0).toNatClampNeg := by
        have := h3.2
        unfold nu at this
        omega
      obtain ⟨f1, f2, f3, f4, f5⟩ := @cps_5 q (10000 * c + (q.1 3 s0).toNatClampNeg) (10000 * c + (q.1 4 s0).toNatClampNeg) (10000 * c + k) (nI s0) (q.1 5 s0) (q.1 6 s0) (q.1 3 s0) (q.1 4 s0)
      rw [o, o, o, o, o, f1, f2, f3, f4, f5, if_pos hc, if_pos hc, if_pos hc, if_pos hc, if_pos hc]
      exact ⟨rfl, rfl, rfl, rfl, rfl⟩
    · by_cases h2' : q.1 2 r = 0
      · rw [if_pos h2']
        exact glearn_i c m (r + 1) q s0 k (by omega) (by omega) h3 (fun s a b => h4 s (by omega) (by omega))
      · rw [if_neg h2']
        have := glearn_i c m (r + 1) (cps q (10000 * c + (q.1 3 r).toNatClampNeg) (10000 * c + (q.1 4 r).toNatClampNeg) (nI r) (q.1 5 r) (q.1 6 r) (q.1 3 r) (q.1 4 r)) s0 k (by omega) (by omega) (by
          unfold bkH nu at h3 ⊢
          rw [cps_ne _ _ _ _ _ _ _ _ (by decide), cps_ne _ _ _ _ _ _ _ _ (by decide), cps_ne _ _ _ _ _ _ _ _ (by decide)]
          exact h3) (fun s a b d => h4 s (by omega) (by omega) (by
          unfold bkH nu at d ⊢
          rw [cps_ne _ _ _ _ _ _ _ _ (by decide), cps_ne _ _ _ _ _ _ _ _ (by decide), cps_ne _ _ _ _ _ _ _ _ (by decide)] at d
          exact d))
        rw [cps_ne _ _ _ _ _ _ _ _ (k := 5) (by decide), cps_ne _ _ _ _ _ _ _ _ (k := 6) (by decide), cps_ne _ _ _ _ _ _ _ _ (k := 3) (by decide), cps_ne _ _ _ _ _ _ _ _ (k := 4) (by decide)] at this
        exact this
theorem bkF_mem {q : xrho} {v : SV} : ∀ m r, v ∈ bkF q r m → ∃ s, r ≤ s ∧ s < r + m ∧ q.1 2 s ≠ 0 ∧ v = (nI s, nu q 3 s, nu q 4 s, q.1 5 s, q.1 6 s)
  | 0, _, h => absurd h (by simp [bkF])
  | m + 1, r, h => by
    unfold bkF at h
    by_cases h2 : q.1 2 r = 0
    · rw [if_pos h2] at h
      obtain ⟨s, a, b, c⟩ := bkF_mem m (r + 1) h
      exact ⟨s, by omega, by omega, c⟩
    · rw [if_neg h2, List.mem_cons] at h
      rcases h with h | h
      · exact ⟨r, (Nat.le_refl _), by omega, h2, h⟩
      · obtain ⟨s, a, b, c⟩ := bkF_mem m (r + 1) h
        exact ⟨s, by omega, by omega, c⟩
theorem bkF_in {q : xrho} : ∀ m r s, r ≤ s → s < r + m → q.1 2 s ≠ 0 → (nI s, nu q 3 s, nu q 4 s, q.1 5 s, q.1 6 s) ∈ bkF q r m
  | 0, _, _, _, _, _ => by omega
  | m + 1, r, s, h1, h2, h3 => by
    unfold bkF
    by_cases e : s = r
    · subst e
      rw [if_neg h3]
      exact List.mem_cons_self
    · have := bkF_in (q := q) m (r + 1) s (by omega) (by omega) h3
      split
      · exact this
      · exact List.mem_cons_of_mem _ this
theorem bkF_pw {q : xrho} (H : ∀ r s, r < 40 → s < 40 → r ≠ s → q.1 2 r ≠ 0 → q.1 2 s ≠ 0 → nu q 4 r ≤ nu q 3 s ∨ nu q 4 s ≤ nu q 3 r) : ∀ m r, r + m ≤ 40 → (bkF q r m).Pairwise svD
  | 0, _, _ => List.Pairwise.nil
  | m + 1, r, h => by
    unfold bkF
    have ih := bkF_pw H m (r + 1) (by omega)
    by_cases h2 : q.1 2 r = 0
    · rw [if_pos h2]; exact ih
    · rw [if_neg h2]
      refine List.Pairwise.cons (fun v hv => ?_) ih
      obtain ⟨s, a, b, c, rfl⟩ := bkF_mem m (r + 1) hv
      exact H r s (by omega) (by omega) (by omega) h2 c
theorem bk1 {q : xrho} (H : bkOK q) {r : Nat} (hr : r < 40) (h : q.1 2 r ≠ 0) : q.1 2 r = 1 := (H.1 r hr).resolve_left h
theorem bk0 {q : xrho} {r : Nat} (h : q.1 2 r = 1) : q.1 2 r ≠ 0 := by rw [h]; exact one0
/-- after learning, the copy is the book -/
theorem cpV_learn {q : xrho} (H : bkOK q) (c : Nat) : cpV (glearn c 0 (nu q 12 0) q) c (bkF q 0 (nu q 12 0)) := by
  have h40 := H.2.2.2.2.2.2.2
  have pw : ∀ r s, r < 40 → s < 40 → r ≠ s → q.1 2 r ≠ 0 → q.1 2 s ≠ 0 → nu q 4 r ≤ nu q 3 s ∨ nu q 4 s ≤ nu q 3 r := fun r s a b e f g => H.2.2.2.1 r s a b e (bk1 H a f) (bk1 H b g)
  refine ⟨fun v hv => ?_, bkF_pw pw _ _ (by omega), fun k hk => ?_⟩
  · obtain ⟨s, a, b, c2, rfl⟩ := bkF_mem _ _ hv
    have hs : s < 40 := by omega
    obtain ⟨g1, g2⟩ := H.2.2.1 s hs (bk1 H hs c2)
    have ok := H.2.1 s g1
    refine ⟨g2, ok.2.2.2, fun k hk => ?_⟩
    have := glearn_i c (nu q 12 0) 0 q s k (by omega) (by omega) ⟨c2, hk.1, hk.2⟩ (fun s2 e1 e2 e3 => ?_)
    · refine ⟨this.1, this.2.1, this.2.2.1, ?_, ?_⟩
      · rw [this.2.2.2.1]; exact ok.1
      · rw [this.2.2.2.2]; exact ok.2.1
    · refine Classical.byContradiction (fun hne => ?_)
      rcases pw s2 s (by omega) hs hne e3.1 c2 with h | h
      · have := e3.2; have := hk.1; dsimp only at this; omega
      · have := e3.2; have := hk.2; dsimp only at this; omega
  · obtain ⟨r, hr, h2, h3, h4⟩ := H.2.2.2.2.1 k hk
    exact ⟨_, bkF_in (q := q) (nu q 12 0) 0 r (by omega) (by have := (H.2.2.1 r hr h2).1; omega) (bk0 h2), h3, h4⟩
/-- the other callers' copies stay -/
theorem glearn_x {q : xrho} (H : bkOK q) {c c' k i : Nat} (hc : c' ≠ c) (hi : i < 10000) : (glearn c 0 (nu q 12 0) q).1 k (10000 * c' + i) = q.1 k (10000 * c' + i) := by
  refine glearn_o c _ 0 q k _ (fun s a b d e => ?_)
  have ok := (H.2.1 s (by omega)).2.2.2
  have : nu q 4 s ≤ 10000 := ok
  rcases Nat.lt_or_gt_of_ne hc with h | h <;> omega
