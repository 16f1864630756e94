/-! the invariant is kept: split, merge -/
theorem bk_split {q q' : xrho} {r n K : Nat} (B : bkOK q) (hn : nu q 12 0 = n) (n40 : n < 40) (hr : r < n) (h2r : q.1 2 r = 1) (hK : nu q 3 r < K ∧ K < nu q 4 r) (e12 : q'.1 12 0 = nI (n + 1)) (o2 : ∀ s, s ≠ n → q'.1 2 s = q.1 2 s) (e2 : q'.1 2 n = 1) (o3 : ∀ s, s ≠ n → q'.1 3 s = q.1 3 s) (e3 : q'.1 3 n = nI K) (o4 : ∀ s, s ≠ n → s ≠ r → q'.1 4 s = q.1 4 s) (e4 : q'.1 4 n = q.1 4 r) (e4r : q'.1 4 r = nI K) (o6 : ∀ s, s ≠ n → q'.1 6 s = q.1 6 s) (e6 : isN q' 6 n 5) : bkOK q' := by
  obtain ⟨b1, b2, b3, b4, b5, b6, b7⟩ := B
  rw [hn] at b2 b3
  have sr := b2 r hr
  have s4 : nu q 4 r ≤ 10000 := sr.2.2.2
  have n12 : nu q' 12 0 = n + 1 := nu_of e12 (by omega)
  have z3 : ∀ s, s ≠ n → nu q' 3 s = nu q 3 s := fun s h => nu_e (o3 s h)
  have z4 : ∀ s, s ≠ n → s ≠ r → nu q' 4 s = nu q 4 s := fun s h h' => nu_e (o4 s h h')
  have y3 : nu q' 3 n = K := nu_of e3 (by omega)
  have y4 : nu q' 4 n = nu q 4 r := by unfold nu; rw [e4]
  have y4r : nu q' 4 r = K := nu_of e4r (by omega)
  have no2 : q.1 2 n ≠ 1 := fun e => by have := (b3 n n40 e).1; omega
  refine ⟨fun s hs => ?_, fun s hs => ?_, fun s hs e => ?_, fun s t hs ht hne es et => ?_, fun k hk => ?_, fun s hs => ?_, isN_of e12 (by omega) (by omega)⟩
  · by_cases c : s = n
    · rw [c, e2]; exact Or.inr rfl
    · rw [o2 s c]; exact b1 s hs
  · rw [n12] at hs
    by_cases c : s = n
    · subst c
      show q'.1 3 s = nI (nu q' 3 s) ∧ q'.1 4 s = nI (nu q' 4 s) ∧ nu q' 3 s ≤ nu q' 4 s ∧ nu q' 4 s ≤ 10000
      rw [y3, y4, e3, e4]
      exact ⟨rfl, sr.2.1, by omega, s4⟩
    · by_cases c' : s = r
      · subst c'
        show q'.1 3 s = nI (nu q' 3 s) ∧ q'.1 4 s = nI (nu q' 4 s) ∧ nu q' 3 s ≤ nu q' 4 s ∧ nu q' 4 s ≤ 10000
        rw [z3 s c, y4r, o3 s c, e4r]
        exact ⟨sr.1, rfl, by omega, by omega⟩
      · have := b2 s (by omega)
        unfold okSp
        rw [o3 s c, o4 s c c']
        exact this
  · rw [n12]
    by_cases c : s = n
    · subst c
      rw [y3, y4]
      exact ⟨by omega, by omega⟩
    · rw [o2 s c] at e
      have := b3 s hs e
      rw [z3 s c]
      by_cases c' : s = r
      · subst c'
        rw [y4r]
        exact ⟨by omega, by omega⟩
      · rw [z4 s c c']
        exact ⟨by omega, this.2⟩
  · have key : ∀ u v, u < 40 → v < 40 → u ≠ n → u ≠ v → q'.1 2 u = 1 → q'.1 2 v = 1 → nu q' 4 u ≤ nu q' 3 v ∨ nu q' 4 v ≤ nu q' 3 u := fun u v hu hv un uv eu ev => by
      rw [o2 u un] at eu
      have yu : nu q' 4 u ≤ nu q 4 u := by
        by_cases c : u = r
        · rw [c, y4r]; omega
        · rw [z4 u un c]; omega
      rw [z3 u un]
      by_cases c : v = n
      · rw [c, y3, y4]
        by_cases c' : u = r
        · rw [c', y4r]; omega
        · have := b4 u r hu (by omega) c' eu h2r
          omega
      · rw [o2 v c] at ev
        rw [z3 v c]
        have yv : nu q' 4 v ≤ nu q 4 v := by
          by_cases c' : v = r
          · rw [c', y4r]; omega
          · rw [z4 v c c']; omega
        have := b4 u v hu hv uv eu ev
        omega
    by_cases c : s = n
    · have := key t s ht hs (by omega) (Ne.symm hne) et es
      omega
    · exact key s t hs ht c hne es et
  · obtain ⟨s, a, b, c, d⟩ := b5 k hk
    by_cases e : s = r
    · by_cases f : k < K
      · refine ⟨r, by omega, ?_, ?_, ?_⟩
        · rw [o2 r (by omega)]; exact h2r
        · rw [z3 r (by omega), ← e]; exact c
        · rw [y4r]; exact f
      · refine ⟨n, n40, e2, ?_, ?_⟩
        · rw [y3]; omega
        · rw [y4, ← e]; exact d
    · have sn : s ≠ n := fun h => no2 (h ▸ b)
      refine ⟨s, a, ?_, ?_, ?_⟩
      · rw [o2 s sn]; exact b
      · rw [z3 s sn]; exact c
      · rw [z4 s sn e]; exact d
  · by_cases c : s = n
    · rw [c]; exact e6
    · exact isN_e (o6 s c) (b6 s hs)
theorem NN_spl {q : xrho} {L : xLs} {n r : Nat} {key : Int32} (H : NN q L n) (n12 : nu q 12 0 < 40) (hr : r < nu q 12 0) (h2 : q.1 2 r = 1) (hk : ¬ (key ≤ q.1 3 r ∨ q.1 4 r ≤ key)) (free : gfree q r (nu q 6 r)) (K' Z' : Nat → KW) : NN (gspq q r (nu q 6 r) (nu q 12 0) key) (spR L.1 (40 * nu q 6 r + r) (40 * nu q 6 r + nu q 12 0) key, L.2.1, K', Z') n := by
  obtain ⟨a1, a2, a3, a4, a5, a6, a7, a8, a9⟩ := H
  have h6 := a2.1.2.2.2.2.2.1 r (by omega)
  have sp := a2.1.2.1 r hr
  have hK : ∃ K, key = nI K ∧ nu q 3 r < K ∧ K < nu q 4 r := by
    obtain ⟨x1, x2, x3, x4⟩ := sp
    have k1 : ¬ key ≤ q.1 3 r := fun e => hk (Or.inl e)
    have k2 : ¬ q.1 4 r ≤ key := fun e => hk (Or.inr e)
    rw [Int32.le_iff_toInt_le, x1, nI_toInt (by omega)] at k1
    rw [Int32.le_iff_toInt_le, x2, nI_toInt (by omega)] at k2
    refine ⟨key.toInt.toNat, ?_, by unfold nu; omega, by unfold nu; omega⟩
    apply ti_e.mp
    rw [nI_toInt (by omega)]
    omega
  obtain ⟨K, eK, hK⟩ := hK
  have st1 : q.1 15 (40 * nu q 6 r + r) = nI 1 := free.2.2
  generalize hn : nu q 12 0 = m at *
  generalize hh : nu q 6 r = h at *
  have e12 : (gspq q r h m key).1 12 0 = nI (m + 1) := by simp (disch := omega) only [gspq, gbook, rup_f, rup_at]
  have fr : ∀ k i, k ≠ 2 → k ≠ 3 → k ≠ 4 → k ≠ 5 → k ≠ 6 → k ≠ 7 → k ≠ 12 → k ≠ 15 → k ≠ 16 → k ≠ 17 → k ≠ 18 → (gspq q r h m key).1 k i = q.1 k i := fun k i _ _ _ _ _ _ _ _ _ _ _ => by simp (disch := omega) only [gspq, gbook, rup_f]
  have ob : ∀ k s, k = 2 ∨ k = 3 ∨ k = 6 ∨ k = 7 → s ≠ m → (gspq q r h m key).1 k s = q.1 k s := fun k s hk hs => by simp (disch := omega) only [gspq, gbook, rup_f, rup_y]
  have o4 : ∀ s, s ≠ m → s ≠ r → (gspq q r h m key).1 4 s = q.1 4 s := fun s h1 h2 => by simp (disch := omega) only [gspq, gbook, rup_f, rup_y]
  have e2 : (gspq q r h m key).1 2 m = 1 := by simp (disch := omega) only [gspq, gbook, rup_f, rup_at]; rfl
  have e3 : (gspq q r h m key).1 3 m = key := by simp (disch := omega) only [gspq, gbook, rup_f, rup_y, rup_at]
  have e4 : (gspq q r h m key).1 4 m = q.1 4 r := by simp (disch := omega) only [gspq, gbook, rup_f, rup_y, rup_at]
  have e4r : (gspq q r h m key).1 4 r = key := by simp (disch := omega) only [gspq, gbook, rup_f, rup_y, rup_at]
  have e6 : (gspq q r h m key).1 6 m = nI h := by simp (disch := omega) only [gspq, gbook, rup_f, rup_y, rup_at]
  have e7 : (gspq q r h m key).1 7 m = Int32.ofInt (-1) := by simp (disch := omega) only [gspq, gbook, rup_f, rup_y, rup_at]
  have e15 : (gspq q r h m key).1 15 (40 * h + m) = nI 1 := by simp (disch := omega) only [gspq, gbook, rup_f, rup_y, rup_at]
  have o15 : ∀ p, p ≠ 40 * h + m → (gspq q r h m key).1 15 p = q.1 15 p := fun p hp => by simp (disch := omega) only [gspq, gbook, rup_f, rup_y]
  have o16 : ∀ k p, k = 16 ∨ k = 17 → p ≠ 40 * h + m → p ≠ 40 * h + r → (gspq q r h m key).1 k p = q.1 k p := fun k p hk hp hp' => by simp (disch := omega) only [gspq, gbook, rup_f, rup_y]
  have l53 : (gspq q r h m key).2 = q.2 := rfl
  have f : ∀ k, k ≠ 2 → k ≠ 3 → k ≠ 4 → k ≠ 5 → k ≠ 6 → k ≠ 7 → k ≠ 12 → k ≠ 15 → k ≠ 16 → k ≠ 17 → k ≠ 18 → (gspq q r h m key).1 k = q.1 k := fun k x1 x2 x3 x4 x5 x6 x7 x8 x9 x10 x11 => funext fun i => fr k i x1 x2 x3 x4 x5 x6 x7 x8 x9 x10 x11
  have hA : ∀ k, AKey q k → AKey (gspq q r h m key) k := fun k ⟨c, j, x, y, z⟩ => ⟨c, j, x, by rw [nu_e (fr 46 c (by decide) (by decide) (by decide) (by decide) (by decide) (by decide) (by decide) (by decide) (by decide) (by decide) (by decide))]; exact y, by rw [fr 48 _ (by decide) (by decide) (by decide) (by decide) (by decide) (by decide) (by decide) (by decide) (by decide) (by decide) (by decide)]; exact z⟩
  generalize gspq q r h m key = q' at *
  have g : ∀ k i, k ≠ 2 → k ≠ 3 → k ≠ 4 → k ≠ 5 → k ≠ 6 → k ≠ 7 → k ≠ 12 → k ≠ 15 → k ≠ 16 → k ≠ 17 → k ≠ 18 → ∀ b, isN q k i b → isN q' k i b := fun k i x1 x2 x3 x4 x5 x6 x7 x8 x9 x10 x11 b z => isN_e (fr k i x1 x2 x3 x4 x5 x6 x7 x8 x9 x10 x11) z
  refine ⟨⟨g 45 0 (by decide) (by decide) (by decide) (by decide) (by decide) (by decide) (by decide) (by decide) (by decide) (by decide) (by decide) _ a1.1, fun c hc => g 46 c (by decide) (by decide) (by decide) (by decide) (by decide) (by decide) (by decide) (by decide) (by decide) (by decide) (by decide) _ (a1.2.1 c hc), g 82 0 (by decide) (by decide) (by decide) (by decide) (by decide) (by decide) (by decide) (by decide) (by decide) (by decide) (by decide) _ a1.2.2.1, isN_of e12 (by omega) (by omega), g 44 0 (by decide) (by decide) (by decide) (by decide) (by decide) (by decide) (by decide) (by decide) (by decide) (by decide) (by decide) _ a1.2.2.2.2.1, g 88 0 (by decide) (by decide) (by decide) (by decide) (by decide) (by decide) (by decide) (by decide) (by decide) (by decide) (by decide) _ a1.2.2.2.2.2⟩, ⟨bk_split a2.1 hn (by omega) hr h2 hK e12 (fun s hs => ob 2 s (by decide) hs) e2 (fun s hs => ob 3 s (by decide) hs) (e3.trans eK) o4 e4 (e4r.trans eK) (fun s hs => ob 6 s (by decide) hs) (isN_of e6 (by have := h6.2; omega) (by have := h6.2; omega)), fun s hs => ⟨?_, g 10 s (by decide) (by decide) (by decide) (by decide) (by decide) (by decide) (by decide) (by decide) (by decide) (by decide) (by decide) _ (a2.2 s hs).2.1, g 11 s (by decide) (by decide) (by decide) (by decide) (by decide) (by decide) (by decide) (by decide) (by decide) (by decide) (by decide) _ (a2.2 s hs).2.2⟩⟩, N3_f (fun k hk => f k (by omega) (by omega) (by omega) (by omega) (by omega) (by omega) (by omega) (by omega) (by omega) (by omega) (by omega)) (by rw [l53]) a3, N4_f (fun k hk => f k (by omega) (by omega) (by omega) (by omega) (by omega) (by omega) (by omega) (by omega) (by omega) (by omega) (by omega)) a4, N5_f (fun k hk => f k (by omega) (by omega) (by omega) (by omega) (by omega) (by omega) (by omega) (by omega) (by omega) (by omega) (by omega)) a5, fun p hp => ?_, N7_f (fun k hk => f k (by omega) (by omega) (by omega) (by omega) (by omega) (by omega) (by omega) (by omega) (by omega) (by omega) (by omega)) a7, N8_f (fun k hk => f k (by omega) (by omega) (by omega) (by omega) (by omega) (by omega) (by omega) (by omega) (by omega) (by omega) (by omega)) a8, fun p hp => ⟨fun x hx => hA _ ?_, fun x hx => hA _ ((a9 p hp).2 x hx)⟩⟩
  · by_cases c : s = m
    · rw [c, e7]; exact Or.inl (by decide)
    · have e := ob 7 s (by decide) c
      rw [e]
      exact (a2.2 s hs).1.imp id (isN_e e)
  · have o := a6 p hp
    have f21 := g 21 p (by decide) (by decide) (by decide) (by decide) (by decide) (by decide) (by decide) (by decide) (by decide) (by decide) (by decide) _ o.2.1
    by_cases c : p = 40 * h + m
    · subst c
      refine ⟨isN_of e15 (by decide) (by decide), f21, fun x => ?_⟩
      rw [e15] at x
      exact absurd x (by decide)
    · refine ⟨isN_e (o15 p c) o.1, f21, fun x y => ?_⟩
      rw [o15 p c] at x
      by_cases c' : p = 40 * h + r
      · subst c'
        rw [st1] at x
        exact absurd x (by decide)
      · have F : ∀ k i, k = 28 ∨ k = 29 ∨ k = 32 ∨ k = 60 ∨ k = 69 ∨ k = 70 ∨ k = 71 ∨ k = 82 → q'.1 k i = q.1 k i := fun k i hk => fr k i (by omega) (by omega) (by omega) (by omega) (by omega) (by omega) (by omega) (by omega) (by omega) (by omega) (by omega)
        rw [F 32 p (by decide)] at y
        have z := o.2.2 x y
        rw [nu_e (F 29 p (by decide)), nu_e (F 82 0 (by decide)), F 60 _ (by decide), F 69 _ (by decide), F 70 _ (by decide), F 71 _ (by decide), F 28 _ (by decide), o16 16 p (by decide) c c', o16 17 p (by decide) c c']
        exact ⟨isN_e (F 29 p (by decide)) z.1, z.2⟩
  · have hx : x ∈ spR L.1 (40 * h + r) (40 * h + m) key p := hx
    have h5 := h6.2
    unfold spR at hx
    by_cases c : p = 40 * h + m
    · rw [c, va_up_self] at hx
      exact (a9 (40 * h + r) (by omega)).1 x (List.mem_filter.mp hx).1
    · rw [va_up_ne _ _ c] at hx
      by_cases c' : p = 40 * h + r
      · rw [c', va_up_self] at hx
        exact (a9 (40 * h + r) (by omega)).1 x (List.mem_filter.mp hx).1
      · rw [va_up_ne _ _ c'] at hx
        exact (a9 p hp).1 x hx
theorem bk_merge {q q' : xrho} {x y lo hi : Nat} (B : bkOK q) (hx : x < nu q 12 0) (hy : y < nu q 12 0) (hne : x ≠ y) (h2x : q.1 2 x = 1) (h2y : q.1 2 y = 1) (hc : (nu q 4 x = nu q 3 y ∧ lo = nu q 3 x ∧ hi = nu q 4 y) ∨ (nu q 4 y = nu q 3 x ∧ lo = nu q 3 y ∧ hi = nu q 4 x)) (e12 : q'.1 12 0 = q.1 12 0) (o2 : ∀ s, s ≠ y → q'.1 2 s = q.1 2 s) (e2 : q'.1 2 y = 0) (o3 : ∀ s, s ≠ x → q'.1 3 s = q.1 3 s) (e3 : q'.1 3 x = nI lo) (o4 : ∀ s, s ≠ x → q'.1 4 s = q.1 4 s) (e4 : q'.1 4 x = nI hi) (o6 : ∀ s, q'.1 6 s = q.1 6 s) : bkOK q' := by
  obtain ⟨b1, b2, b3, b4, b5, b6, b7⟩ := B
  have n12 : nu q' 12 0 = nu q 12 0 := nu_e e12
  have x40 : x < 40 := by have := b7.2; omega
  have y40 : y < 40 := by have := b7.2; omega
  have sx : nu q 3 x < nu q 4 x := (b3 x x40 h2x).2
  have sy : nu q 3 y < nu q 4 y := (b3 y y40 h2y).2
  have s4x : nu q 4 x ≤ 10000 := (b2 x hx).2.2.2
  have s4y : nu q 4 y ≤ 10000 := (b2 y hy).2.2.2
  have z3 : ∀ s, s ≠ x → nu q' 3 s = nu q 3 s := fun s h => nu_e (o3 s h)
  have z4 : ∀ s, s ≠ x → nu q' 4 s = nu q 4 s := fun s h => nu_e (o4 s h)
  have y3 : nu q' 3 x = lo := nu_of e3 (by omega)
  have y4 : nu q' 4 x = hi := nu_of e4 (by omega)
  have ny : ∀ s, q'.1 2 s = 1 → s ≠ y := fun s e h => by
    rw [h, e2] at e
    exact absurd e (by decide)
  refine ⟨fun s hs => ?_, fun s hs => ?_, fun s hs e => ?_, fun s t hs ht hst es et => ?_, fun k hk => ?_, fun s hs => isN_e (o6 s) (b6 s hs), isN_e e12 b7⟩
  · by_cases c : s = y
    · rw [c, e2]; exact Or.inl rfl
    · rw [o2 s c]; exact b1 s hs
  · rw [n12] at hs
    by_cases c : s = x
    · subst c
      show q'.1 3 s = nI (nu q' 3 s) ∧ q'.1 4 s = nI (nu q' 4 s) ∧ nu q' 3 s ≤ nu q' 4 s ∧ nu q' 4 s ≤ 10000
      rw [y3, y4]
      exact ⟨e3, e4, by omega, by omega⟩
    · unfold okSp
      rw [o3 s c, o4 s c]
      exact b2 s hs
  · rw [n12]
    rw [o2 s (ny s e)] at e
    have := b3 s hs e
    by_cases c : s = x
    · rw [c, y3, y4]
      exact ⟨hx, by omega⟩
    · rw [z3 s c, z4 s c]
      exact this
  · have key : ∀ u, u < 40 → u ≠ x → q'.1 2 u = 1 → nu q' 4 u ≤ lo ∨ hi ≤ nu q' 3 u := fun u hu ux eu => by
      have uy := ny u eu
      rw [o2 u uy] at eu
      rw [z3 u ux, z4 u ux]
      have t1 := b4 u x hu x40 ux eu h2x
      have t2 := b4 u y hu y40 uy eu h2y
      have t3 := (b3 u hu eu).2
      omega
    by_cases c : s = x
    · subst c
      have := key t ht (Ne.symm hst) et
      rw [y3, y4]
      omega
    · by_cases c' : t = x
      · subst c'
        have := key s hs hst es
        rw [y3, y4]
        omega
      · rw [o2 s (ny s es)] at es
        rw [o2 t (ny t et)] at et
        rw [z3 s c, z3 t c', z4 s c, z4 t c']
        exact b4 s t hs ht hst es et
  · obtain ⟨s, a, b, c, d⟩ := b5 k hk
    by_cases e : s = x ∨ s = y
    · refine ⟨x, x40, by rw [o2 x hne]; exact h2x, ?_, ?_⟩
      · rw [y3]
        rcases e with e | e <;> subst e <;> omega
      · rw [y4]
        rcases e with e | e <;> subst e <;> omega
    · have e1 : s ≠ x := fun h => e (Or.inl h)
      have e2' : s ≠ y := fun h => e (Or.inr h)
      exact ⟨s, a, by rw [o2 s e2']; exact b, by rw [z3 s e1]; exact c, by rw [z4 s e1]; exact d⟩
theorem NN_mrg {q : xrho} {L : xLs} {n x y : Nat} (H : NN q L n) (hx : x < nu q 12 0) (hy : y < nu q 12 0) (h2x : q.1 2 x = 1) (h2y : q.1 2 y = 1) (fx : gfree q x (nu q 6 x)) (h6e : nu q 6 x = nu q 6 y) (hc : q.1 4 x = q.1 3 y ∨ q.1 4 y = q.1 3 x) (K' Z' : Nat → KW) : x ≠ y ∧ NN (gmgq q x y (nu q 6 x)) (va_up L.1 (40 * nu q 6 x + x) ((L.1 (40 * nu q 6 x + y)).foldl putA (L.1 (40 * nu q 6 x + x))), L.2.1, K', Z') n := by
  obtain ⟨a1, a2, a3, a4, a5, a6, a7, a8, a9⟩ := H
  have b40 := a1.2.2.2.1.2
  have h6 := a2.1.2.2.2.2.2.1 x (by omega)
  obtain ⟨sx1, sx2, sx3, sx4⟩ := a2.1.2.1 x hx
  obtain ⟨sy1, sy2, sy3, sy4⟩ := a2.1.2.1 y hy
  have lx : nu q 3 x < nu q 4 x := (a2.1.2.2.1 x (by omega) h2x).2
  have ly : nu q 3 y < nu q 4 y := (a2.1.2.2.1 y (by omega) h2y).2
  have ux : nu q 4 x ≤ 10000 := sx4
  have uy : nu q 4 y ≤ 10000 := sy4
  have hne : x ≠ y := fun e => by
    subst e
    have : q.1 4 x = q.1 3 x := hc.elim id id
    unfold nu at lx
    rw [this] at lx
    omega
  refine ⟨hne, ?_⟩
  have el : q.1 3 x = nI (nu q 3 x) := sx1
  have eh : q.1 4 x = nI (nu q 4 x) := sx2
  have fl : q.1 3 y = nI (nu q 3 y) := sy1
  have fh : q.1 4 y = nI (nu q 4 y) := sy2
  have hcase : ∃ lo hi, ((nu q 4 x = nu q 3 y ∧ lo = nu q 3 x ∧ hi = nu q 4 y) ∨ (nu q 4 y = nu q 3 x ∧ lo = nu q 3 y ∧ hi = nu q 4 x)) ∧ mglo q x y = nI lo ∧ mghi q x y = nI hi := by
    unfold mglo mghi
    rcases hc with e | e
    · have e' : nu q 4 x = nu q 3 y := by unfold nu; rw [e]
      refine ⟨nu q 3 x, nu q 4 y, Or.inl ⟨e', rfl, rfl⟩, ?_, ?_⟩
      · rw [if_neg, ← el]
        rw [el, fl, nI_ltI (by omega) (by omega)]
        omega
      · rw [if_pos, ← fh]
        rw [eh, fh, nI_ltI (by omega) (by omega)]
        omega
    · have e' : nu q 4 y = nu q 3 x := by unfold nu; rw [e]
      refine ⟨nu q 3 y, nu q 4 x, Or.inr ⟨e', rfl, rfl⟩, ?_, ?_⟩
      · rw [if_pos, ← fl]
        rw [el, fl, nI_ltI (by omega) (by omega)]
        omega
      · rw [if_neg, ← eh]
        rw [eh, fh, nI_ltI (by omega) (by omega)]
        omega
  obtain ⟨lo, hi, hcase, elo, ehi⟩ := hcase
  have st1 : q.1 15 (40 * nu q 6 x + x) = nI 1 := fx.2.2
  generalize hh : nu q 6 x = h at *
  have fr : ∀ k i, k ≠ 2 → k ≠ 3 → k ≠ 4 → k ≠ 5 → k ≠ 15 → k ≠ 16 → k ≠ 17 → k ≠ 18 → (gmgq q x y h).1 k i = q.1 k i := fun k i _ _ _ _ _ _ _ _ => by simp (disch := omega) only [gmgq, gmg0, rup_f]
  have o2 : ∀ s, s ≠ y → (gmgq q x y h).1 2 s = q.1 2 s := fun s hs => by simp (disch := omega) only [gmgq, gmg0, rup_f, rup_y]
  have e2 : (gmgq q x y h).1 2 y = 0 := by simp (disch := omega) only [gmgq, gmg0, rup_f, rup_at]; rfl
  have o3 : ∀ k s, k = 3 ∨ k = 4 → s ≠ x → (gmgq q x y h).1 k s = q.1 k s := fun k s hk hs => by simp (disch := omega) only [gmgq, gmg0, rup_f, rup_y]
  have e3 : (gmgq q x y h).1 3 x = nI lo := by rw [← elo]; simp (disch := omega) only [gmgq, gmg0, rup_f, rup_at]
  have e4 : (gmgq q x y h).1 4 x = nI hi := by rw [← ehi]; simp (disch := omega) only [gmgq, gmg0, rup_f, rup_at]
  have e15 : (gmgq q x y h).1 15 (40 * h + y) = 0 := by simp (disch := omega) only [gmgq, gmg0, rup_f, rup_at]; rfl
  have o15 : ∀ p, p ≠ 40 * h + y → (gmgq q x y h).1 15 p = q.1 15 p := fun p hp => by simp (disch := omega) only [gmgq, gmg0, rup_f, rup_y]
  have o16 : ∀ k p, k = 16 ∨ k = 17 → p ≠ 40 * h + x → (gmgq q x y h).1 k p = q.1 k p := fun k p hk hp => by simp (disch := omega) only [gmgq, gmg0, rup_f, rup_y]
  have l53 : (gmgq q x y h).2 = q.2 := rfl
  generalize gmgq q x y h = q' at *
  have f : ∀ k, k ≠ 2 → k ≠ 3 → k ≠ 4 → k ≠ 5 → k ≠ 15 → k ≠ 16 → k ≠ 17 → k ≠ 18 → q'.1 k = q.1 k := fun k x1 x2 x3 x4 x5 x6 x7 x8 => funext fun i => fr k i x1 x2 x3 x4 x5 x6 x7 x8
  have hA : ∀ k, AKey q k → AKey q' k := fun k ⟨c, j, x, y, z⟩ => ⟨c, j, x, by rw [nu_e (fr 46 c (by decide) (by decide) (by decide) (by decide) (by decide) (by decide) (by decide) (by decide))]; exact y, by rw [fr 48 _ (by decide) (by decide) (by decide) (by decide) (by decide) (by decide) (by decide) (by decide)]; exact z⟩
  have F : ∀ k i, 6 ≤ k → k ≠ 15 → k ≠ 16 → k ≠ 17 → k ≠ 18 → q'.1 k i = q.1 k i := fun k i _ _ _ _ _ => fr k i (by omega) (by omega) (by omega) (by omega) (by omega) (by omega) (by omega) (by omega)
  refine ⟨N1_f (fun k hk => f k (by omega) (by omega) (by omega) (by omega) (by omega) (by omega) (by omega) (by omega)) a1, ⟨bk_merge a2.1 hx hy hne h2x h2y hcase (F 12 0 (by decide) (by decide) (by decide) (by decide) (by decide)) o2 e2 (fun s hs => o3 3 s (by decide) hs) e3 (fun s hs => o3 4 s (by decide) hs) e4 (fun s => F 6 s (by decide) (by decide) (by decide) (by decide) (by decide)), fun s hs => ?_⟩, N3_f (fun k hk => f k (by omega) (by omega) (by omega) (by omega) (by omega) (by omega) (by omega) (by omega)) (by rw [l53]) a3, N4_f (fun k hk => f k (by omega) (by omega) (by omega) (by omega) (by omega) (by omega) (by omega) (by omega)) a4, N5_f (fun k hk => f k (by omega) (by omega) (by omega) (by omega) (by omega) (by omega) (by omega) (by omega)) a5, fun p hp => ?_, N7_f (fun k hk => f k (by omega) (by omega) (by omega) (by omega) (by omega) (by omega) (by omega) (by omega)) a7, N8_f (fun k hk => f k (by omega) (by omega) (by omega) (by omega) (by omega) (by omega) (by omega) (by omega)) a8, fun p hp => ⟨fun z hz => hA _ ?_, fun z hz => hA _ ((a9 p hp).2 z hz)⟩⟩
  · have z := a2.2 s hs
    have e := F 7 s (by decide) (by decide) (by decide) (by decide) (by decide)
    rw [e]
    exact ⟨z.1.imp id (isN_e e), isN_e (F 10 s (by decide) (by decide) (by decide) (by decide) (by decide)) z.2.1, isN_e (F 11 s (by decide) (by decide) (by decide) (by decide) (by decide)) z.2.2⟩
  · have o := a6 p hp
    have f21 := isN_e (F 21 p (by decide) (by decide) (by decide) (by decide) (by decide)) o.2.1
    by_cases c : p = 40 * h + y
    · subst c
      refine ⟨isN_of (n := 0) e15 (by decide) (by decide), f21, fun z => ?_⟩
      rw [e15] at z
      exact absurd z (by decide)
    · refine ⟨isN_e (o15 p c) o.1, f21, fun z w => ?_⟩
      rw [o15 p c] at z
      by_cases c' : p = 40 * h + x
      · subst c'
        rw [st1] at z
        exact absurd z (by decide)
      · rw [F 32 p (by decide) (by decide) (by decide) (by decide) (by decide)] at w
        have t := o.2.2 z w
        rw [nu_e (F 29 p (by decide) (by decide) (by decide) (by decide) (by decide)), nu_e (F 82 0 (by decide) (by decide) (by decide) (by decide) (by decide)), F 60 _ (by decide) (by decide) (by decide) (by decide) (by decide), F 69 _ (by decide) (by decide) (by decide) (by decide) (by decide), F 70 _ (by decide) (by decide) (by decide) (by decide) (by decide), F 71 _ (by decide) (by decide) (by decide) (by decide) (by decide), F 28 _ (by decide) (by decide) (by decide) (by decide) (by decide), o16 16 p (by decide) c', o16 17 p (by decide) c']
        exact ⟨isN_e (F 29 p (by decide) (by decide) (by decide) (by decide) (by decide)) t.1, t.2⟩
  · have hz : z ∈ va_up L.1 (40 * h + x) ((L.1 (40 * h + y)).foldl putA (L.1 (40 * h + x))) p := hz
    have h5 := h6.2
    by_cases c : p = 40 * h + x
    · rw [c, va_up_self] at hz
      exact putF_P (P := AKey q) _ _ (a9 (40 * h + y) (by omega)).1 (a9 (40 * h + x) (by omega)).1 z hz
    · rw [va_up_ne _ _ c] at hz
      exact (a9 p hp).1 z hz
theorem tI_n0 {c : Prop} (h : ¬ tI c = 0) : c := Classical.byContradiction fun hc => h (by unfold tI; exact if_neg hc)
theorem NN_split {q : xrho} {L : xLs} {n : Nat} {x key : Int32} (H : NN q L n) : NN (asplit q L x key).2.1 (asplit q L x key).2.2 n := by
  unfold asplit
  split
  · exact NN_ref H
  · next r e1 =>
    obtain ⟨r1, r2, r3⟩ := grng_some H.1.2.2.2.1 e1
    split
    · exact NN_ref H
    · next hk =>
      split
      · exact NN_ref H
      · split
        · exact NN_ref H
        · next hf =>
          split
          · exact NN_ref H
          · next h40 => exact NN_spl H (by have := H.1.2.2.2.1.2; omega) r1 r3 hk (tI_n0 hf) _ _
theorem NN_merge {q : xrho} {L : xLs} {n : Nat} {x y : Int32} (H : NN q L n) : NN (amerge q L x y).2.1 (amerge q L x y).2.2 n := by
  unfold amerge
  split
  · exact NN_ref H
  · next r e1 =>
    obtain ⟨r1, r2, r3⟩ := grng_some H.1.2.2.2.1 e1
    split
    · exact NN_ref H
    · next s e2 =>
      obtain ⟨s1, s2, s3⟩ := grng_some H.1.2.2.2.1 e2
      split
      · exact NN_ref H
      · split
        · exact NN_ref H
        · next hc =>
          have hc' : ¬ (q.1 4 r ≠ q.1 3 s ∧ q.1 4 s ≠ q.1 3 r) := fun h => hc (Or.inr (Or.inr (Or.inr (Or.inl h))))
          exact (NN_mrg H r1 s1 r3 s3 (tI_n0 (fun h => hc (Or.inl h))) (Classical.byContradiction fun h => hc (Or.inr (Or.inr (Or.inl h)))) (by
            by_cases c : q.1 4 r = q.1 3 s
            · exact Or.inl c
            · exact Or.inr (Classical.byContradiction fun h => hc' ⟨c, h⟩)) _ _).2
