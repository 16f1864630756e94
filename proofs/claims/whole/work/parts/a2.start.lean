/-! the invariant holds at the start -/
def L00 : xLs := (fun _ => [], fun _ => [], fun _ => [], fun _ => [])
theorem qS_n {k i b : Nat} (h : k ≠ 0 ∧ k ≠ 9 ∧ k ≠ 2 ∧ k ≠ 4 ∧ k ≠ 5 ∧ k ≠ 7 ∧ k ≠ 12 ∧ k ≠ 15 ∧ k ≠ 17 ∧ k ≠ 18 ∨ k ≠ 0 ∧ k ≠ 9 ∧ i ≠ 0) : isN qS k i b ∧ nu qS k i = 0 := ⟨isN_of (n := 0) (qS_z i h) (by omega) (by omega), nu_of (n := 0) (qS_z i h) (by omega)⟩
theorem qS_12 : nu qS 12 0 = 1 := nu_of qS_at.2.2.2.2.2.2.1 (by decide)
theorem qS_82 : nu qS 82 0 = 0 := (qS_n (b := 0) (Or.inl (by decide))).2
theorem qS_46 (c : Nat) : nu qS 46 c = 0 := (qS_n (b := 0) (Or.inl (by decide))).2
theorem qS_P : PIv qS 100 := by
  obtain ⟨s2, s3, s4, s5, s6, s7, s12, s15, s16, s17, s18⟩ := qS_at
  have noS : ∀ r m, pS qS r m → m 0 < 3 := fun r m ⟨l, hl, _⟩ => by rw [qS_82] at hl; omega
  have tz : ∀ k i, (k ≠ 0 ∧ k ≠ 9 ∧ k ≠ 2 ∧ k ≠ 4 ∧ k ≠ 5 ∧ k ≠ 7 ∧ k ≠ 12 ∧ k ≠ 15 ∧ k ≠ 17 ∧ k ≠ 18 ∨ k ≠ 0 ∧ k ≠ 9 ∧ i ≠ 0) → ti qS k i = 0 := fun k i h => by unfold ti; rw [qS_z i h]; rfl
  have t9 : ∀ i, i < 160 → ti qS 9 i < 0 := fun i hi => by unfold ti; rw [qS_9, if_pos hi]; decide
  refine ⟨fun r hr => ?_, fun r h1 h2 => ?_⟩
  · rw [qS_12] at hr
    have : r = 0 := by omega
    subst this
    unfold pv pvS
    have e2 : (qS.1 2 0 = 1) = True := propext ⟨fun _ => trivial, fun _ => s2⟩
    rw [e2, tz 8 0 (Or.inl (by decide))]
    refine Pin_new 0 (by rw [tz 6 0 (Or.inl (by decide))]; rfl) (by unfold ti; rw [s7]; decide) ⟨t9 _ (by decide), t9 _ (by decide), t9 _ (by decide), t9 _ (by decide)⟩ (by unfold ti; rw [s5]; decide) (noS 0) (fun i => ?_) ?_ ?_ ?_ (fun i => ?_) (fun i => ?_)
    · show ti qS 15 (40 * i + 0) = _
      by_cases c : i = 0
      · rw [if_pos c, c]; unfold ti; rw [s15]; decide
      · rw [if_neg c]; exact tz 15 _ (Or.inr ⟨by decide, by decide, by omega⟩)
    · show ti qS 18 (40 * 0 + 0) = _
      unfold ti; rw [s18, s5]
    · show ti qS 16 (40 * 0 + 0) = _
      unfold ti; rw [s16, s3]
    · show ti qS 17 (40 * 0 + 0) = _
      unfold ti; rw [s17, s4]
    · show ti qS 18 (40 * i + 0) ≤ 100 ∧ ti qS 22 (40 * i + 0) ≤ 100 ∧ ti qS 23 (40 * i + 0) ≤ 100
      rw [tz 22 _ (Or.inl (by decide)), tz 23 _ (Or.inl (by decide))]
      refine ⟨?_, by decide, by decide⟩
      by_cases c : i = 0
      · rw [c]; unfold ti; rw [s18]; decide
      · rw [tz 18 _ (Or.inr ⟨by decide, by decide, by omega⟩)]; decide
    · show ti qS 30 (40 * i + 0) ≤ 0
      rw [tz 30 _ (Or.inl (by decide))]
      decide
  · rw [qS_12] at h1
    refine ⟨fun h => ⟨qS_z _ (Or.inr ⟨by decide, by decide, by omega⟩), qS_z _ (Or.inr ⟨by decide, by decide, by omega⟩), qS_z _ (Or.inr ⟨by decide, by decide, by omega⟩), qS_z _ (Or.inr ⟨by decide, by decide, by omega⟩), ?_⟩, qS_z _ (Or.inl (by decide)), fun j hj => ti_lt0.mpr (t9 _ (by omega)), noS r, ?_⟩
    · rw [tz 30 _ (Or.inl (by decide))]
      decide
    · rw [qS_z _ (Or.inr ⟨by decide, by decide, by omega⟩)]
      decide
theorem qS_N : NN qS L00 0 := by
  obtain ⟨s2, s3, s4, s5, s6, s7, s12, s15, s16, s17, s18⟩ := qS_at
  have z : ∀ {k i b : Nat}, k ≠ 0 ∧ k ≠ 9 ∧ k ≠ 2 ∧ k ≠ 4 ∧ k ≠ 5 ∧ k ≠ 7 ∧ k ≠ 12 ∧ k ≠ 15 ∧ k ≠ 17 ∧ k ≠ 18 → isN qS k i b := fun h => (qS_n (Or.inl h)).1
  have z2 : ∀ r, r < 40 → qS.1 2 r = if r = 0 then 1 else 0 := fun r _ => by
    by_cases c : r = 0
    · rw [if_pos c, c, s2]
    · rw [if_neg c]; exact qS_z _ (Or.inr ⟨by decide, by decide, c⟩)
  have o2 : ∀ r, r < 40 → qS.1 2 r = 1 → r = 0 := fun r hr e => Classical.byContradiction fun c => by
    rw [z2 r hr, if_neg c] at e
    exact absurd e (by decide)
  have n3 : nu qS 3 0 = 0 := (qS_n (b := 0) (Or.inl (by decide))).2
  have n4 : nu qS 4 0 = 10000 := nu_of s4 (by decide)
  refine ⟨⟨z (by decide), fun c _ => z (by decide), z (by decide), isN_of s12 (by decide) (by decide), z (by decide), z (by decide)⟩, ⟨⟨fun r hr => ?_, fun r hr => ?_, fun r hr e => ?_, fun r s hr hs hne er es => ?_, fun k hk => ⟨0, by decide, s2, by rw [n3]; omega, by rw [n4]; exact hk⟩, fun r _ => z (by decide), isN_of s12 (by decide) (by decide)⟩, fun r hr => ⟨?_, z (by decide), z (by decide)⟩⟩, ⟨fun c j _ hj => by rw [qS_46] at hj; omega, fun c j _ _ _ => ⟨qS_z _ (Or.inl (by decide)), qS_z _ (Or.inl (by decide)), by rw [qS_2]; rfl⟩, fun c _ _ => qS_z _ (Or.inl (by decide))⟩, fun l hl => by rw [qS_82] at hl; omega, ⟨fun l _ _ => ⟨qS_z _ (Or.inl (by decide)), qS_z _ (Or.inl (by decide))⟩, fun x _ => by rw [qS_z _ (Or.inl (by decide))]; rfl⟩, fun p hp => ⟨?_, z (by decide), fun x _ => ?_⟩, fun g hg => ?_, fun c k _ _ => ⟨z (by decide), z (by decide)⟩, fun p _ => ⟨fun x hx => absurd hx (by simp [L00]), fun x hx => absurd hx (by simp [L00])⟩⟩
  · rw [z2 r hr]
    by_cases c : r = 0
    · rw [if_pos c]; exact Or.inr rfl
    · rw [if_neg c]; exact Or.inl rfl
  · rw [qS_12] at hr
    have : r = 0 := by omega
    subst this
    show qS.1 3 0 = nI (nu qS 3 0) ∧ qS.1 4 0 = nI (nu qS 4 0) ∧ nu qS 3 0 ≤ nu qS 4 0 ∧ nu qS 4 0 ≤ 10000
    rw [n3, n4, s3, s4]
    exact ⟨rfl, rfl, by decide, by decide⟩
  · have := o2 r hr e
    subst this
    rw [qS_12, n3, n4]
    exact ⟨by decide, by decide⟩
  · have a := o2 r hr er
    have b := o2 s hs es
    omega
  · by_cases c : r = 0
    · rw [c, s7]; exact Or.inl (by decide)
    · exact Or.inr (qS_n (Or.inr ⟨by decide, by decide, c⟩)).1
  · by_cases c : p = 0
    · rw [c]; exact isN_of s15 (by decide) (by decide)
    · exact (qS_n (Or.inr ⟨by decide, by decide, c⟩)).1
  · exfalso
    by_cases c : p = 0
    · rw [c, s15] at x
      exact absurd x (by decide)
    · rw [qS_z _ (Or.inr ⟨by decide, by decide, c⟩)] at x
      exact absurd x (by decide)
  · have : nu qS 44 0 = 0 := (qS_n (b := 0) (Or.inl (by decide))).2
    omega
theorem qS_L : LX qS L00 := by
  have z : ∀ {k i : Nat}, k ≠ 0 ∧ k ≠ 9 ∧ k ≠ 2 ∧ k ≠ 4 ∧ k ≠ 5 ∧ k ≠ 7 ∧ k ≠ 12 ∧ k ≠ 15 ∧ k ≠ 17 ∧ k ≠ 18 → qS.1 k i = nI 0 ∧ nu qS k i = 0 := fun h => ⟨qS_z _ (Or.inl h), (qS_n (b := 0) (Or.inl h)).2⟩
  refine ⟨⟨fun p _ => ⟨(z (by decide)).1, Nat.zero_le _, ?_, List.Pairwise.nil⟩, fun p _ => ⟨(z (by decide)).1, Nat.succ_pos 499, ?_, List.Pairwise.nil⟩, fun c _ => ⟨(z (by decide)).1, Nat.zero_le _, ?_, List.Pairwise.nil⟩⟩, fun c _ => ⟨(z (by decide)).1, Nat.zero_le _, ?_, List.Pairwise.nil⟩⟩
  · unfold rowsV; rw [(z (by decide)).2]; rfl
  · unfold sendV; rw [(z (by decide)).2]; rfl
  · unfold keptV; rw [(z (by decide)).2]; rfl
  · unfold lkeptV; rw [(z (by decide)).2]; rfl
