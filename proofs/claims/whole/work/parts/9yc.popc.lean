/-! the protocol is kept: split -/
theorem Pin_new {E H T oG oT w0 w1 w2 w3 lo hi : Int} {st ep hl hh mv ac pt tk et lm pE pA : Nat → Int} {B : Int} {S : (Nat → Int) → Prop} (h : Nat) (hH : (h : Int) = H) (hT : T < 0) (hw : w0 < 0 ∧ w1 < 0 ∧ w2 < 0 ∧ w3 < 0) (hE : 0 ≤ E ∧ E ≤ B ∧ 1 ≤ B) (hS : ∀ m, S m → m 0 < 3) (hst : ∀ i, st i = if i = h then 1 else 0) (hep : ep h = E) (hll : hl h = lo) (hhh : hh h = hi) (hb : ∀ i, ep i ≤ B ∧ ac i ≤ B ∧ pt i ≤ B) (hpE : ∀ i, pE i ≤ 0) : Pin True 0 E H T oG oT w0 w1 w2 w3 lo hi st ep hl hh mv ac pt tk et lm pE pA B S := by
  have o1 : ∀ i, pown st i → i = h := fun i e => Classical.byContradiction fun hc => by
    unfold pown at e
    rw [hst i, if_neg hc] at e
    omega
  have o2 : ∀ i, ¬ prcv st i := fun i e => by
    unfold prcv at e
    rw [hst i] at e
    by_cases hc : i = h
    · rw [if_pos hc] at e; omega
    · rw [if_neg hc] at e; omega
  have o3 : ∀ i, ¬ pgiv st i := fun i e => by
    unfold pgiv at e
    rw [hst i] at e
    by_cases hc : i = h
    · rw [if_pos hc] at e; omega
    · rw [if_neg hc] at e; omega
  have o4 : ∀ m k, S m → m 0 = k → 3 ≤ k → False := fun m k a b c => by
    have := hS m a
    omega
  unfold Pin
  refine ⟨Int.le_refl _, fun i e => ?_, fun i e f => ?_, fun e => absurd e (by omega), fun _ => ⟨hE.1, fun i hi e => Or.inl ?_⟩, fun i e => absurd e (o3 i), fun m a b => absurd (hS m a) (by omega), fun i e => absurd e (o2 i), hpE, ⟨Or.inl hw.1, Or.inl hw.2.1, Or.inl hw.2.2.1, Or.inl hw.2.2.2⟩, fun e => absurd e (by omega), fun _ => hT, fun e => absurd e (by omega), fun m a b => (o4 m 7 a b (by decide)).elim, fun m a b => (o4 m 9 a b (by decide)).elim, fun m a b => (o4 m 10 a b (by decide)).elim, fun m a b => (o4 m 11 a b (by decide)).elim, fun m a b => (o4 m 12 a b (by decide)).elim, fun m i a b => (o4 m 7 a b (by decide)).elim, fun m m' i a b => (o4 m 7 a b (by decide)).elim, fun m a b => (o4 m 8 a b (by decide)).elim, fun e => absurd e (by omega), fun e => absurd e (by omega), fun e => absurd e (by omega), fun e => absurd e (by omega), fun e => absurd e (by omega), fun e => absurd e (by omega), fun e => absurd e (by omega), fun e => absurd e (by omega), fun e => absurd e (by omega), fun e => absurd e (by omega), fun e => absurd e (by omega), fun e => absurd e (by omega), fun e => absurd e (by omega), fun e => absurd e (by omega), fun i e => absurd e (o3 i), fun i e => absurd e (o3 i), ⟨hE.2.2, hE.1, hE.2.1, by omega⟩, hb, fun m a b => absurd (hS m a) (by omega), fun e => absurd trivial e⟩
  · have := o1 i e
    subst this
    exact ⟨trivial, hll, hhh⟩
  · have := o1 i e
    subst this
    exact absurd hH f
  · have : i = h := by omega
    subst this
    exact hep

theorem pfu_id (f : Nat → Int) (h : Nat) {y : Int} (e : f h = y) : pfu f h y = f := funext fun i => by
  unfold pfu
  by_cases c : i = h
  · rw [if_pos c, c, e]
  · rw [if_neg c]
theorem V_spl {q : xrho} {B : Int} {r : Nat} {key : Int32} (I : PIv q B) (n12 : nu q 12 0 < 40) (hB : B < 1900000000) (hr : r < nu q 12 0) (h6 : isN q 6 r 5) (free : gfree q r (nu q 6 r)) : PIv (gspq q r (nu q 6 r) (nu q 12 0) key) (B + 2) := by
  have sl : sal q (gspq q r (nu q 6 r) (nu q 12 0) key) := ⟨fun k i _ _ _ _ => by simp (disch := omega) only [gspq, gbook, rup_f], by simp (disch := omega) only [gspq, gbook, rup_f]⟩
  have ex : 0 ≤ ti q 5 r ∧ ti q 5 r ≤ B := ⟨(Pin_q (I.1 r hr)).2.1, (Pin_q (I.1 r hr)).2.2.1⟩
  have hB1 : 1 ≤ B := (Pin_q (I.1 r hr)).1
  have e51 : (q.1 5 r + nI 1).toInt = ti q 5 r + 1 := ti_add (by unfold ti at ex; omega)
  have h6' : ti q 6 r = nu q 6 r := ti_k h6.1 (by have := h6.2; omega)
  have fr := gfr_t free
  have own := Pin_a (I.1 r hr) (nu q 6 r) (Or.inl fr.2.2)
  have m12 : nu (gspq q r (nu q 6 r) (nu q 12 0) key) 12 0 = nu q 12 0 + 1 := by
    have : (gspq q r (nu q 6 r) (nu q 12 0) key).1 12 0 = nI (nu q 12 0 + 1) := by simp (disch := omega) only [gspq, gbook, rup_f, rup_at]
    unfold nu at this ⊢
    rw [this]
    exact nI_clamp (by unfold nu at n12; omega)
  have ot : ∀ s, s ≠ r → s ≠ nu q 12 0 → s < 40 → sam q (gspq q r (nu q 6 r) (nu q 12 0) key) s := fun s a b c => ⟨fun k _ _ _ => by simp (disch := omega) only [gspq, gbook, rup_y, rup_f], fun j _ => by simp (disch := omega) only [gspq, gbook, rup_f], fun k i hk => by unfold pkf at hk; simp (disch := omega) only [gspq, gbook, rup_f, rup_y]⟩
  have F := I.2 (nu q 12 0) (Nat.le_refl _) n12
  generalize hn : nu q 12 0 = n at *
  generalize hh : nu q 6 r = h at *
  have vr : pvS (gspq q r h n key) r (B + 2) (pS q r) := by
    refine V_rsz (lo := ti q 3 r) (hi := key.toInt) I (by omega) h6 (by rw [hh]; exact free) (y := ti q 5 r + 1) (by omega) (by omega) (fun S z => ?_)
    rw [hh, pfu_id (fun h => ti q 16 (40 * h + r)) h own.2.1] at z
    have e17 : (fun i => ti (gspq q r h n key) 17 (40 * i + r)) = pfu (fun i => ti q 17 (40 * i + r)) h key.toInt := tv (x := key) (by simp (disch := omega) only [gspq, gbook, rup_f, rup_at]) (fun i hi => by simp (disch := omega) only [gspq, gbook, rup_y, rup_f]) rfl
    have e18 : (fun i => ti (gspq q r h n key) 18 (40 * i + r)) = pfu (fun i => ti q 18 (40 * i + r)) h (ti q 5 r + 1) := tv (x := q.1 5 r + nI 1) (by simp (disch := omega) only [gspq, gbook, rup_f, rup_y, rup_at]) (fun i hi => by simp (disch := omega) only [gspq, gbook, rup_y, rup_f]) e51
    have f : ∀ k, k = 15 ∨ k = 16 → (fun i => ti (gspq q r h n key) k (40 * i + r)) = fun i => ti q k (40 * i + r) := fun k hk => funext fun i => by
      unfold ti
      simp (disch := omega) only [gspq, gbook, rup_y, rup_f]
    have g : ∀ k, k = 2 ∨ k = 3 ∨ k = 6 ∨ k = 7 → (gspq q r h n key).1 k r = q.1 k r := fun k hk => by
      simp (disch := omega) only [gspq, gbook, rup_y, rup_f]
    have e4 : ti (gspq q r h n key) 4 r = key.toInt := by unfold ti; simp (disch := omega) only [gspq, gbook, rup_f, rup_at]
    have e5 : ti (gspq q r h n key) 5 r = ti q 5 r + 1 := by
      rw [← e51]; unfold ti; simp (disch := omega) only [gspq, gbook, rup_f, rup_y, rup_at]
    have g3 : ti (gspq q r h n key) 3 r = ti q 3 r := by unfold ti; rw [g 3 (by decide)]
    have g6 : ti (gspq q r h n key) 6 r = ti q 6 r := by unfold ti; rw [g 6 (by decide)]
    have g7 : ti (gspq q r h n key) 7 r = ti q 7 r := by unfold ti; rw [g 7 (by decide)]
    unfold pvS
    rw [g 2 (by decide), e4, e5, e17, e18, f 15 (by decide), f 16 (by decide), g3, g6, g7]
    exact z
  have vn : pvS (gspq q r h n key) n (B + 2) (pS q n) := by
    have e2 : ((gspq q r h n key).1 2 n = 1) = True := by
      have : (gspq q r h n key).1 2 n = Int32.ofInt 1 := by simp (disch := omega) only [gspq, gbook, rup_f, rup_at]
      rw [this]
      exact propext ⟨fun _ => trivial, fun _ => rfl⟩
    have g : ∀ k, k = 8 ∨ k = 10 ∨ k = 11 → (gspq q r h n key).1 k n = q.1 k n := fun k hk => by
      simp (disch := omega) only [gspq, gbook, rup_y, rup_f]
    have g9 : ∀ j, j < 4 → ti (gspq q r h n key) 9 (4 * n + j) < 0 := fun j hj => by
      have : (gspq q r h n key).1 9 (4 * n + j) = q.1 9 (4 * n + j) := by simp (disch := omega) only [gspq, gbook, rup_f]
      unfold ti
      rw [this]
      exact ti_lt0.mp (F.2.2.1 j hj)
    have g8 : ti (gspq q r h n key) 8 n = 0 := by unfold ti; rw [g 8 (by decide), F.2.1]; rfl
    have st : ∀ i, ti (gspq q r h n key) 15 (40 * i + n) = if i = h then 1 else 0 := fun i => by
      unfold ti
      by_cases c : i = h
      · rw [if_pos c, c]
        have : (gspq q r h n key).1 15 (40 * h + n) = nI 1 := by simp (disch := omega) only [gspq, gbook, rup_f, rup_at]
        rw [this]; decide
      · rw [if_neg c]
        have : (gspq q r h n key).1 15 (40 * i + n) = q.1 15 (40 * i + n) := by simp (disch := omega) only [gspq, gbook, rup_f, rup_y]
        rw [this, (F.1 i).1]; rfl
    have eE : ti (gspq q r h n key) 5 n = ti q 5 r + 1 := by
      rw [← e51]; unfold ti; simp (disch := omega) only [gspq, gbook, rup_f, rup_y, rup_at]
    have ep : ∀ i, ti (gspq q r h n key) 18 (40 * i + n) = if i = h then ti q 5 r + 1 else 0 := fun i => by
      by_cases c : i = h
      · rw [if_pos c, c, ← e51]
        unfold ti
        simp (disch := omega) only [gspq, gbook, rup_f, rup_at]
      · rw [if_neg c]
        have : (gspq q r h n key).1 18 (40 * i + n) = q.1 18 (40 * i + n) := by simp (disch := omega) only [gspq, gbook, rup_f, rup_y]
        unfold ti
        rw [this, (F.1 i).2.1]; rfl
    have e22 : ∀ i, ti (gspq q r h n key) 22 (40 * i + n) = 0 := fun i => by
      have : (gspq q r h n key).1 22 (40 * i + n) = q.1 22 (40 * i + n) := by simp (disch := omega) only [gspq, gbook, rup_f]
      unfold ti; rw [this, (F.1 i).2.2.1]; rfl
    have e23 : ∀ i, ti (gspq q r h n key) 23 (40 * i + n) = 0 := fun i => by
      have : (gspq q r h n key).1 23 (40 * i + n) = q.1 23 (40 * i + n) := by simp (disch := omega) only [gspq, gbook, rup_f]
      unfold ti; rw [this, (F.1 i).2.2.2.1]; rfl
    have e30 : ∀ i, ti (gspq q r h n key) 30 (40 * i + n) ≤ 0 := fun i => by
      have : (gspq q r h n key).1 30 (40 * i + n) = q.1 30 (40 * i + n) := by simp (disch := omega) only [gspq, gbook, rup_f]
      have := (F.1 i).2.2.2.2
      unfold ti at this ⊢; simp only [*]
    unfold pvS
    rw [e2, g8]
    refine Pin_new h ?_ ?_ ⟨g9 0 (by decide), g9 1 (by decide), g9 2 (by decide), g9 3 (by decide)⟩ ?_ (F.2.2.2.1) st ?_ ?_ ?_ (fun i => ?_) e30
    · have : (gspq q r h n key).1 6 n = nI h := by simp (disch := omega) only [gspq, gbook, rup_f, rup_at]
      exact (ti_k this (by have := h6.2; omega)).symm
    · have : (gspq q r h n key).1 7 n = Int32.ofInt (-1) := by simp (disch := omega) only [gspq, gbook, rup_f, rup_at]
      unfold ti; rw [this]; decide
    · rw [eE]; omega
    · show ti (gspq q r h n key) 18 (40 * h + n) = _
      rw [ep h, if_pos rfl, eE]
    · show ti (gspq q r h n key) 16 (40 * h + n) = _
      unfold ti; simp (disch := omega) only [gspq, gbook, rup_f, rup_y, rup_at]
    · show ti (gspq q r h n key) 17 (40 * h + n) = _
      have : ti (gspq q r h n key) 17 (40 * h + n) = ti q 17 (40 * h + r) := by
        unfold ti; simp (disch := omega) only [gspq, gbook, rup_f, rup_y, rup_at]
      rw [this]
      have : ti (gspq q r h n key) 4 n = ti q 4 r := by
        unfold ti; simp (disch := omega) only [gspq, gbook, rup_f, rup_y, rup_at]
      rw [this]
      exact own.2.2
    · show ti (gspq q r h n key) 18 (40 * i + n) ≤ _ ∧ ti (gspq q r h n key) 22 (40 * i + n) ≤ _ ∧ ti (gspq q r h n key) 23 (40 * i + n) ≤ _
      rw [ep i, e22, e23]
      by_cases c : i = h
      · rw [if_pos c]; omega
      · rw [if_neg c]; omega
  refine ⟨fun s hs => ?_, fun s h1 h2 => ?_⟩
  · rw [m12] at hs
    unfold pv
    rw [pS_sal sl]
    by_cases a : s = r
    · rw [a]; exact vr
    · by_cases b : s = n
      · rw [b]; exact vn
      · exact pv_raise (pvS_sam (ot s a b (by omega)) (I.1 s (by omega))) (by omega)
  · rw [m12] at h1
    exact fresh_sam (ot s (by omega) (by omega) h2) (fun m hm => Or.inl (by rw [← pS_sal sl]; exact hm)) (I.2 s (by omega) h2)
