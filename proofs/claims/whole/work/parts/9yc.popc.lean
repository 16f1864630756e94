/-! the protocol is kept: split -/
theorem Pin_new {E H T oG oT w0 w1 w2 w3 lo hi : Int} {st ep hl hh mv ac pt tk et lm pE pA : Nat → Int} {B : Int} {S : (Nat → Int) → Prop} (h : Nat) (hH : (h : Int) = H) (hT : T < 0) (hw : w0 < 0 ∧ w1 < 0 ∧ w2 < 0 ∧ w3 < 0) (hE : 0 ≤ E ∧ E ≤ B ∧ 1 ≤ B) (hS : ∀ m, S m → m 0 < 3) (hst : ∀ i, st i = if i = h then 1 else 0) (hep : ep h = E) (hll : hl h = lo) (hhh : hh h = hi) (hb : ∀ i, ep i ≤ B ∧ ac i ≤ B ∧ pt i ≤ B) (hpE : ∀ i, pE i ≤ 0) : Pin True 0 E H T oG oT w0 w1 w2 w3 lo hi st ep hl hh mv ac pt tk et lm pE pA B S := by
  have o1 : ∀ i, pown st i → i = h := fun i e => Classical.byContradiction fun hc => by
    unfold pown at e
    rw [hst i, if_neg hc] at e
    omega
  have o2 : ∀ i, ¬ prcv st i := fun i e => by
    unfold prcv at e
    rw [hst i] at e
    by_cases hc : i = h
    · rw [if_pos hc] at e; omega
    · rw [if_neg hc] at e; omega
  have o3 : ∀ i, ¬ pgiv st i := fun i e => by
    unfold pgiv at e
    rw [hst i] at e
    by_cases hc : i = h
    · rw [if_pos hc] at e; omega
    · rw [if_neg hc] at e; omega
  have o4 : ∀ m k, S m → m 0 = k → 3 ≤ k → False := fun m k a b c => by
    have := hS m a
    omega
  unfold Pin
  refine ⟨Int.le_refl _, fun i e => ?_, fun i e f => ?_, fun e => absurd e (by omega), fun _ => ⟨hE.1, fun i hi e => Or.inl ?_⟩, fun i e => absurd e (o3 i), fun m a b => absurd (hS m a) (by omega), fun i e => absurd e (o2 i), hpE, ⟨Or.inl hw.1, Or.inl hw.2.1, Or.inl hw.2.2.1, Or.inl hw.2.2.2⟩, fun e => absurd e (by omega), fun _ => hT, fun e => absurd e (by omega), fun m a b => (o4 m 7 a b (by decide)).elim, fun m a b => (o4 m 9 a b (by decide)).elim, fun m a b => (o4 m 10 a b (by decide)).elim, fun m a b => (o4 m 11 a b (by decide)).elim, fun m a b => (o4 m 12 a b (by decide)).elim, fun m i a b => (o4 m 7 a b (by decide)).elim, fun m m' i a b => (o4 m 7 a b (by decide)).elim, fun m a b => (o4 m 8 a b (by decide)).elim, fun e => absurd e (by omega), fun e => absurd e (by omega), fun e => absurd e (by omega), fun e => absurd e (by omega), fun e => absurd e (by omega), fun e => absurd e (by omega), fun e => absurd e (by omega), fun e => absurd e (by omega), fun e => absurd e (by omega), fun e => absurd e (by omega), fun e => absurd e (by omega), fun e => absurd e (by omega), fun e => absurd e (by omega), fun e => absurd e (by omega), fun i e => absurd e (o3 i), fun i e => absurd e (o3 i), ⟨hE.2.2, hE.1, hE.2.1, by omega⟩, hb, fun m a b => absurd (hS m a) (by omega), fun e => absurd trivial e⟩
  · have := o1 i e
    subst this
    exact ⟨trivial, hll, hhh⟩
  · have := o1 i e
    subst this
    exact absurd hH f
  · have : i = h := by omega
    subst this
    exact hep
