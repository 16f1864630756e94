/-! the invariant is kept: letters -/
theorem NN_nl {q q' : xrho} {L : xLs} {n : Nat} (H : NN q L n) (hl : nu q 82 0 < 1200) (e : nlq q (nu q 82 0) q') (hx : ∀ x, x < 3600 → xbool (q'.1 76 x) = true) (hn : ltr q' (nu q 82 0)) : NN q' L n := by
  obtain ⟨a1, a2, a3, a4, a5, a6, a7, a8, a9⟩ := H
  obtain ⟨e1, e2, e3, e4, e5, e6⟩ := e
  have fr : ∀ k, ¬ (60 ≤ k ∧ k ≤ 76) → k ≠ 82 → q'.1 k = q.1 k := fun k a b => funext fun i => e1 k i a b
  have n82 : nu q' 82 0 = nu q 82 0 + 1 := nu_of e5 (by omega)
  have hA : ∀ key, AKey q key → AKey q' key := fun key ⟨c, j, x, y, z⟩ => ⟨c, j, x, by rw [nu_e (q := q) (q' := q') (e1 46 c (by decide) (by decide))]; exact y, by rw [e1 48 _ (by decide) (by decide)]; exact z⟩
  have h46 : ∀ c, nu q' 46 c = nu q 46 c := fun c => nu_e (by rw [fr 46 (by decide) (by decide)])
  have h45 : nu q' 45 0 = nu q 45 0 := nu_e (by rw [fr 45 (by decide) (by decide)])
  refine ⟨⟨isN_e (e1 _ _ (by decide) (by decide)) a1.1, fun c hc => isN_e (e1 _ _ (by decide) (by decide)) (a1.2.1 c hc), isN_of e5 (by omega) (by omega), isN_e (e1 _ _ (by decide) (by decide)) a1.2.2.2.1, isN_e (e1 _ _ (by decide) (by decide)) a1.2.2.2.2.1, isN_e (e1 _ _ (by decide) (by decide)) a1.2.2.2.2.2⟩, N2_f (fun k hk => fr k (by omega) (by omega)) a2, N3_f (fun k hk => fr k (by omega) (by omega)) (funext fun i => e4 53 i (by decide)) a3, fun l hl' => ?_, ⟨fun l h1 h2 => ?_, hx⟩, fun p hp => ?_, N7_f (fun k hk => fr k (by omega) (by omega)) a7, N8_f (fun k hk => fr k (by omega) (by omega)) a8, N9_f (fun k hk => fr k (by omega) (by omega)) a9⟩
  · by_cases c : l < nu q 82 0
    · exact ltr_up (fun k x y z => e2 k l x (by omega) (by omega) c) (fun j hj => (e3 _ (by omega)).1) (by omega) (fun c => by rw [h46]; omega) hA (a4 l c)
    · have : l = nu q 82 0 := by omega
      rw [this]
      exact hn
  · have := a5.1 l (by omega) h2
    rw [(e6 l).1, (e6 l).2]
    exact this
  · obtain ⟨b1, b2, b3⟩ := a6 p hp
    refine ⟨isN_e (e1 _ _ (by decide) (by decide)) b1, isN_e (e1 _ _ (by decide) (by decide)) b2, fun x y => ?_⟩
    rw [e1 15 p (by decide) (by decide)] at x
    rw [e1 32 p (by decide) (by decide)] at y
    obtain ⟨c1, c2, c3, c4, c5, c6⟩ := b3 x y
    have n29 : nu q' 29 p = nu q 29 p := nu_e (e1 _ _ (by decide) (by decide))
    rw [n29, e2 60 _ (by decide) (by decide) (by decide) c2, e2 69 _ (by decide) (by decide) (by decide) c2, e2 70 _ (by decide) (by decide) (by decide) c2, e2 71 _ (by decide) (by decide) (by decide) c2, e1 28 p (by decide) (by decide), e1 16 p (by decide) (by decide), e1 17 p (by decide) (by decide)]
    exact ⟨isN_e (e1 _ _ (by decide) (by decide)) c1, by omega, c3, c4, c5, c6⟩
/-- a letter with kind, to, from, range -/
theorem ltr_of {q : xrho} {l k : Nat} (hk : k ≤ 14) (e60 : q.1 60 l = nI k) (h61 : isN q 61 l 5) (h63 : k ≠ 1 → k ≠ 2 → isN q 63 l 39) (h0 : k = 0 → lt0 q l) (h1 : k = 1 → lt1 q l) (h2 : k = 2 → lt2 q l) (h3 : k = 3 → isN q 72 l 5) (h4 : k = 4 → lt4 q l) (h5 : k = 5 → q.1 68 l < 0 → q.1 68 l = Int32.ofInt (-1)) (h7 : k = 7 ∨ k = 9 ∨ k = 11 ∨ k = 13 → q.1 62 l = 0) : ltr q l := by
  have e : nu q 60 l = k := nu_of e60 (by omega)
  unfold ltr
  rw [e]
  exact ⟨isN_of e60 hk (by omega), h61, h63, h0, h1, h2, h3, h4, h5, h7⟩
/-- plain letters: 6 .. 14 -/
theorem ltr_pl {q : xrho} {l k : Nat} (hk : 6 ≤ k ∧ k ≤ 14) (e60 : q.1 60 l = nI k) (h61 : isN q 61 l 5) (h63 : isN q 63 l 39) (h62 : k = 7 ∨ k = 9 ∨ k = 11 ∨ k = 13 → q.1 62 l = 0) : ltr q l := ltr_of hk.2 e60 h61 (fun _ _ => h63) (fun e => by omega) (fun e => by omega) (fun e => by omega) (fun e => by omega) (fun e => by omega) (fun e => by omega) h62
theorem NN_new {q : xrho} {L : xLs} {n k : Nat} {to fr rg ep : Int32} (H : NN q L n) (hl : nu q 82 0 < 1200) (hk : 6 ≤ k ∧ k ≤ 14) (ht : ∃ m, m ≤ 5 ∧ to = nI m) (hr : ∃ m, m ≤ 39 ∧ rg = nI m) (h62 : k = 7 ∨ k = 9 ∨ k = 11 ∨ k = 13 → fr = 0) : NN (gnew q (nu q 82 0) (nI k) to fr rg ep) L n := by
  have g := gnew_at q (nu q 82 0) (nI k) to fr rg ep
  obtain ⟨m, hm, em⟩ := ht
  obtain ⟨s, hs, es⟩ := hr
  exact NN_nl H hl (nlq_new _ _ _ _ _ _ _) (fun x hx => by rw [gnew_o _ _ _ _ _ _ _ (Or.inl (by decide)) (by decide)]; exact H.2.2.2.2.1.2 x hx) (ltr_pl hk g.1 (isN_of (g.2.1.trans em) hm (by omega)) (isN_of (g.2.2.2.1.trans es) hs (by omega)) (fun e => g.2.2.1.trans (h62 e)))
theorem NN_gowL {q : xrho} {L : xLs} {n r k : Nat} (H : NN q L n) (hl : nu q 82 0 < 1200) (hr : r < 40) (hk : k < 4) : NN (gowedL q r k (nu q 82 0)) L n := by
  have a := H.2.1.2 r hr
  unfold gowedL
  have e : ∀ m, (if k = 0 then nI 7 else if k = 1 then nI 9 else if k = 2 then nI 11 else nI 13) = nI m → m ≤ 14 → True := fun _ _ _ => trivial
  have t : ∃ m, m ≤ 5 ∧ (if k = 0 ∨ k = 3 then q.1 11 r else q.1 10 r) = nI m := by
    split
    · exact ⟨_, a.2.2.2, a.2.2.1⟩
    · exact ⟨_, a.2.1.2, a.2.1.1⟩
  have : k = 0 ∨ k = 1 ∨ k = 2 ∨ k = 3 := by omega
  rcases this with c | c | c | c <;> subst c
  · exact NN_new (k := 7) H hl (by decide) t ⟨r, by omega, rfl⟩ (fun _ => rfl)
  · exact NN_new (k := 9) H hl (by decide) t ⟨r, by omega, rfl⟩ (fun _ => rfl)
  · exact NN_new (k := 11) H hl (by decide) t ⟨r, by omega, rfl⟩ (fun _ => rfl)
  · exact NN_new (k := 13) H hl (by decide) t ⟨r, by omega, rfl⟩ (fun _ => rfl)
theorem NN_gbeg {q : xrho} {L : xLs} {n r : Nat} (H : NN q L n) (hl : nu q 82 0 < 1200) (hr : r < 40) (h7 : isN q 7 r 5) : NN (gbeg q (nu q 82 0) r) L n := by
  have g := gnew_at q (nu q 82 0) (nI 3) (q.1 6 r) (nI 0) (nI r) (q.1 8 r)
  have h6 := H.2.1.1.2.2.2.2.2.1 r hr
  have f : ∀ k, k ≠ 72 → (gbeg q (nu q 82 0) r).1 k (nu q 82 0) = (gnew q (nu q 82 0) (nI 3) (q.1 6 r) (nI 0) (nI r) (q.1 8 r)).1 k (nu q 82 0) := fun k hk => by
    unfold gbeg
    rw [rup_f _ _ _ _ hk]
    rfl
  refine NN_nl H hl (gbeg_nl _ _ _) (fun x hx => ?_) (ltr_of (k := 3) (by decide) ((f 60 (by decide)).trans g.1) (isN_of ((f 61 (by decide)).trans (g.2.1.trans h6.1)) h6.2 (by have := h6.2; omega)) (fun _ _ => isN_of ((f 63 (by decide)).trans g.2.2.2.1) (by omega) (by omega)) (fun e => absurd e (by decide)) (fun e => absurd e (by decide)) (fun e => absurd e (by decide)) (fun _ => ?_) (fun e => absurd e (by decide)) (fun e => absurd e (by decide)) (fun e => absurd e (by decide)))
  · unfold gbeg
    rw [rup_f _ _ _ _ (by decide), gnew_o _ _ _ _ _ _ _ (Or.inl (by decide)) (by decide)]
    exact H.2.2.2.2.1.2 x hx
  · exact isN_of (n := nu q 7 r) (by unfold gbeg; rw [rup_at]; exact h7.1) h7.2 (by have := h7.2; omega)
/-! calls -/
theorem NN_50 {q : xrho} {L : xLs} {n c j : Nat} {x : Int32} (H : NN q L n) (hc : c < 6) (hj : j < nu q 46 c) : NN (rup q 50 (60 * c + j) x) L n := by
  obtain ⟨a1, a2, a3, a4, a5, a6, a7, a8, a9⟩ := H
  have b := (a1.2.1 c hc).2
  refine ⟨N1_f (fun k hk => funext fun i => by simp (disch := omega) only [rup_f]) a1, N2_f (fun k hk => funext fun i => by simp (disch := omega) only [rup_f]) a2, ⟨a3.1, fun c' j' x1 x2 x3 => ?_, a3.2.2⟩, N4_f (fun k hk => funext fun i => by simp (disch := omega) only [rup_f]) a4, N5_f (fun k hk => funext fun i => by simp (disch := omega) only [rup_f]) a5, N6_f (fun k hk => funext fun i => by simp (disch := omega) only [rup_f]) a6, N7_f (fun k hk => funext fun i => by simp (disch := omega) only [rup_f]) a7, N8_f (fun k hk => funext fun i => by simp (disch := omega) only [rup_f]) a8, N9_f (fun k hk => funext fun i => by simp (disch := omega) only [rup_f]) a9⟩
  have x2 : nu q 46 c' ≤ j' := x2
  have z := a3.2.1 c' j' x1 x2 x3
  refine ⟨z.1, ?_, z.2.2⟩
  have : 60 * c' + j' ≠ 60 * c + j := by
    by_cases e : c' = c
    · subst e; omega
    · omega
  rw [rup_y _ _ _ _ this]
  exact z.2.1
theorem NN_sends {q : xrho} {L : xLs} {n c j key : Nat} (H : NN q L n) (hl : nu q 82 0 < 1200) (hc : c < nu q 45 0) (hj : j < nu q 46 c) (hk : key < 10000) : NN (gsends q (nu q 82 0) c j key) L n := by
  have c6 : c < 6 := by have := H.1.1.2; omega
  have b := (H.1.2.1 c c6).2
  obtain ⟨k1, k2⟩ := H.2.2.2.2.2.2.2.1 c key c6 hk
  unfold gsends
  have e46 : nu (rup (gnew q (nu q 82 0) (Int32.ofInt 0) (q.1 57 (10000 * c + key)) (nI c) (q.1 55 (10000 * c + key)) (q.1 56 (10000 * c + key))) 66 (nu q 82 0) (nI j)) 46 c = nu q 46 c := nu_e (by simp (disch := omega) only [gnew, rup_f])
  have e45 : nu (rup (gnew q (nu q 82 0) (Int32.ofInt 0) (q.1 57 (10000 * c + key)) (nI c) (q.1 55 (10000 * c + key)) (q.1 56 (10000 * c + key))) 66 (nu q 82 0) (nI j)) 45 0 = nu q 45 0 := nu_e (by simp (disch := omega) only [gnew, rup_f])
  refine NN_50 (NN_nl H hl (nlq_up (nlq_new _ _ _ _ _ _ _) (by decide)) (fun x hx => ?_) ?_) c6 (by rw [e46]; exact hj)
  · rw [rup_f _ _ _ _ (by decide), gnew_o _ _ _ _ _ _ _ (Or.inl (by decide)) (by decide)]
    exact H.2.2.2.2.1.2 x hx
  · have g := gnew_at q (nu q 82 0) (Int32.ofInt 0) (q.1 57 (10000 * c + key)) (nI c) (q.1 55 (10000 * c + key)) (q.1 56 (10000 * c + key))
    have f : ∀ k, k ≠ 66 → (rup (gnew q (nu q 82 0) (Int32.ofInt 0) (q.1 57 (10000 * c + key)) (nI c) (q.1 55 (10000 * c + key)) (q.1 56 (10000 * c + key))) 66 (nu q 82 0) (nI j)).1 k (nu q 82 0) = (gnew q (nu q 82 0) (Int32.ofInt 0) (q.1 57 (10000 * c + key)) (nI c) (q.1 55 (10000 * c + key)) (q.1 56 (10000 * c + key))).1 k (nu q 82 0) := fun k hk => rup_f _ _ _ _ hk
    have f66 := rup_at (gnew q (nu q 82 0) (Int32.ofInt 0) (q.1 57 (10000 * c + key)) (nI c) (q.1 55 (10000 * c + key)) (q.1 56 (10000 * c + key))) 66 (nu q 82 0) (nI j)
    refine ltr_of (k := 0) (by decide) ((f 60 (by decide)).trans (g.1.trans rfl)) (isN_of ((f 61 (by decide)).trans (g.2.1.trans k2.1)) k2.2 (by have := k2.2; omega)) (fun _ _ => isN_of ((f 63 (by decide)).trans (g.2.2.2.1.trans k1.1)) k1.2 (by have := k1.2; omega)) (fun _ => ?_) (fun e => absurd e (by decide)) (fun e => absurd e (by decide)) (fun e => absurd e (by decide)) (fun e => absurd e (by decide)) (fun e => absurd e (by decide)) (fun e => absurd e (by decide))
    have e62 := (f 62 (by decide)).trans g.2.2.1
    have n62 := nu_of e62 (by omega)
    have n66 := nu_of f66 (by omega)
    unfold lt0
    rw [n62, n66, e45, e46]
    exact ⟨isN_of e62 (by omega) (by omega), hc, isN_of f66 (by omega) (by omega), hj⟩
theorem gO_some {q : xrho} {x y : Int32} {c j : Nat} (h45 : isN q 45 0 6) (h46 : ∀ c, c < 6 → isN q 46 c 60) (h : gcallO q x y = some (c, j)) : c < nu q 45 0 ∧ j < nu q 46 c := by
  unfold gcallO at h
  split at h
  · exact absurd h (by simp)
  · next c' e1 =>
    split at h
    · exact absurd h (by simp)
    · next j' e2 =>
      have z1 := ix_lt (by have := h45.2; omega) e1
      have z2 := ix_lt (by have := (h46 c' (by have := h45.2; omega)).2; omega) e2
      injection h with h
      injection h with h1 h2
      subst h1
      subst h2
      exact ⟨z1, z2⟩
theorem NN_again {q : xrho} {L : xLs} {n : Nat} {x y : Int32} (H : NN q L n) : NN (gagain q x y).2 L n := by
  unfold gagain
  split
  · exact NN_ref H
  · next c j e =>
    obtain ⟨h1, h2⟩ := gO_some H.1.1 H.1.2.1 e
    split
    · exact NN_ref H
    · next hl =>
      have := H.1.2.2.1.2
      have k := (H.2.2.1.1 c j (by have := H.1.1.2; omega) h2).1.2
      exact NN_sends H (by omega) h1 h2 (by omega)
theorem NN_callq {q : xrho} {L : xLs} {n c kd ky : Nat} {v w : Int64} (H : NN q L n) (hc : c < nu q 45 0) (hj : nu q 46 c < 60) (hkd : kd < 5) (hky : ky < 10000) : NN (gcallq q c (nu q 46 c) (nI kd) (nI ky) v w) L n := by
  obtain ⟨a1, a2, a3, a4, a5, a6, a7, a8, a9⟩ := H
  have c6 : c < 6 := by have := a1.1.2; omega
  have fr : ∀ k i, k ≠ 46 → k ≠ 47 → k ≠ 48 → k ≠ 49 → (gcallq q c (nu q 46 c) (nI kd) (nI ky) v w).1 k i = q.1 k i := fun k i x1 x2 x3 x4 => by
    unfold gcallq
    rw [rup_f _ _ _ _ x1, rup_f _ _ _ _ x4, rupL_1, rupL_1, rup_f _ _ _ _ x3, rup_f _ _ _ _ x2]
  have e46 : (gcallq q c (nu q 46 c) (nI kd) (nI ky) v w).1 46 c = nI (nu q 46 c + 1) := by unfold gcallq; rw [rup_at]
  have n46 := nu_of e46 (by omega)
  have o46 : ∀ i, i ≠ c → (gcallq q c (nu q 46 c) (nI kd) (nI ky) v w).1 46 i = q.1 46 i := fun i hi => by
    unfold gcallq
    rw [rup_y _ _ _ _ hi, rup_f _ _ _ _ (by decide), rupL_1, rupL_1, rup_f _ _ _ _ (by decide), rup_f _ _ _ _ (by decide)]
  have oth : ∀ k i, k ≠ 46 → i ≠ 60 * c + nu q 46 c → (gcallq q c (nu q 46 c) (nI kd) (nI ky) v w).1 k i = q.1 k i := fun k i x1 x2 => by
    unfold gcallq
    rw [rup_f _ _ _ _ x1, rup_y _ _ _ _ x2, rupL_1, rupL_1, rup_y _ _ _ _ x2, rup_y _ _ _ _ x2]
  have e47 : (gcallq q c (nu q 46 c) (nI kd) (nI ky) v w).1 47 (60 * c + nu q 46 c) = nI kd := by
    unfold gcallq; rw [rup_f _ _ _ _ (by decide), rup_f _ _ _ _ (by decide), rupL_1, rupL_1, rup_f _ _ _ _ (by decide), rup_at]
  have e48 : (gcallq q c (nu q 46 c) (nI kd) (nI ky) v w).1 48 (60 * c + nu q 46 c) = nI ky := by
    unfold gcallq; rw [rup_f _ _ _ _ (by decide), rup_f _ _ _ _ (by decide), rupL_1, rupL_1, rup_at]
  have e49 : (gcallq q c (nu q 46 c) (nI kd) (nI ky) v w).1 49 (60 * c + nu q 46 c) = Int32.ofInt (-9) := by
    unfold gcallq; rw [rup_f _ _ _ _ (by decide), rup_at]
  have e53 : (gcallq q c (nu q 46 c) (nI kd) (nI ky) v w).2 53 = q.2 53 := by
    rfl
  have no : ∀ c', nu q 46 c' ≤ nu (gcallq q c (nu q 46 c) (nI kd) (nI ky) v w) 46 c' := fun c' => by
    by_cases e : c' = c
    · rw [e, n46]; omega
    · rw [nu_e (o46 c' e)]; omega
  have hA : ∀ key, AKey q key → AKey (gcallq q c (nu q 46 c) (nI kd) (nI ky) v w) key := fun key ⟨c', j', x, y, z⟩ => ⟨c', j', x, by have := no c'; omega, by
    have := (a1.2.1 c' x).2
    rw [oth 48 _ (by decide) (by
      by_cases e : c' = c
      · subst e; omega
      · omega)]
    exact z⟩
  generalize gcallq q c (nu q 46 c) (nI kd) (nI ky) v w = q' at *
  have f : ∀ k, k ≠ 46 → k ≠ 47 → k ≠ 48 → k ≠ 49 → q'.1 k = q.1 k := fun k x1 x2 x3 x4 => funext fun i => fr k i x1 x2 x3 x4
  have n45 : nu q' 45 0 = nu q 45 0 := nu_e (fr 45 0 (by decide) (by decide) (by decide) (by decide))
  refine ⟨⟨isN_e (fr _ _ (by decide) (by decide) (by decide) (by decide)) a1.1, fun c' hc' => ?_, isN_e (fr _ _ (by decide) (by decide) (by decide) (by decide)) a1.2.2.1, isN_e (fr _ _ (by decide) (by decide) (by decide) (by decide)) a1.2.2.2.1, isN_e (fr _ _ (by decide) (by decide) (by decide) (by decide)) a1.2.2.2.2.1, isN_e (fr _ _ (by decide) (by decide) (by decide) (by decide)) a1.2.2.2.2.2⟩, N2_f (fun k hk => f k (by omega) (by omega) (by omega) (by omega)) a2, ⟨fun c' j' x1 x2 => ?_, fun c' j' x1 x2 x3 => ?_, fun c' x1 x2 => ?_⟩, N4_up (fun k x y _ => f k (by omega) (by omega) (by omega) (by omega)) (by omega) no hA a4, N5_f (fun k hk => f k (by omega) (by omega) (by omega) (by omega)) a5, N6_f (fun k hk => f k (by omega) (by omega) (by omega) (by omega)) a6, N7_f (fun k hk => f k (by omega) (by omega) (by omega) (by omega)) a7, N8_f (fun k hk => f k (by omega) (by omega) (by omega) (by omega)) a8, fun p hp => ⟨fun x hx => hA _ ((a9 p hp).1 x hx), fun x hx => hA _ ((a9 p hp).2 x hx)⟩⟩
  · by_cases e : c' = c
    · rw [e]; exact isN_of e46 (by omega) (by omega)
    · exact isN_e (o46 c' e) (a1.2.1 c' hc')
  · by_cases e : c' = c ∧ j' = nu q 46 c
    · obtain ⟨e1, e2⟩ := e
      subst e1
      subst e2
      exact ⟨isN_of e48 (by omega) (by omega), isN_of e47 (by omega) (by omega), fun _ => e49⟩
    · have b := (a1.2.1 c' x1).2
      have hj' : j' < nu q 46 c' := by
        by_cases e' : c' = c
        · subst e'
          rw [n46] at x2
          have : j' ≠ nu q 46 c' := fun h => e ⟨rfl, h⟩
          omega
        · rw [nu_e (o46 c' e')] at x2
          exact x2
      have hi : 60 * c' + j' ≠ 60 * c + nu q 46 c := by
        by_cases e' : c' = c
        · subst e'; omega
        · omega
      have z := a3.1 c' j' x1 hj'
      rw [fr 54 _ (by decide) (by decide) (by decide) (by decide), oth 49 _ (by decide) hi]
      exact ⟨isN_e (oth 48 _ (by decide) hi) z.1, isN_e (oth 47 _ (by decide) hi) z.2.1, z.2.2⟩
  · have z := a3.2.1 c' j' x1 (by have := no c'; omega) x3
    rw [fr 54 _ (by decide) (by decide) (by decide) (by decide), fr 50 _ (by decide) (by decide) (by decide) (by decide), e53]
    exact z
  · rw [n45] at x1
    rw [o46 c' (by omega)]
    exact a3.2.2 c' x1 x2
theorem NN_call {q : xrho} {L : xLs} {n : Nat} {x kind key : Int32} {v w : Int64} (H : NN q L n) : NN (gcall q x kind key v w).2 L n := by
  unfold gcall
  split
  · exact NN_ref H
  · next c e1 =>
    have hc := ix_lt (by have := H.1.1.2; omega) e1
    split
    · exact NN_ref H
    · next kd e2 =>
      split
      · exact NN_ref H
      · next ky e3 =>
        split
        · exact NN_ref H
        · next hl =>
          obtain ⟨k1, k2, -⟩ := ix_some (by decide) e2
          obtain ⟨y1, y2, -⟩ := ix_some (by decide) e3
          have b82 := H.1.2.2.1.2
          have b46 := (H.1.2.1 c (by have := H.1.1.2; omega)).2
          have h46 : nu q 46 c < 60 := by omega
          subst k2
          subst y2
          have H' := NN_callq (v := v) (w := w) H hc h46 k1 y1
          have n82 : nu (gcallq q c (nu q 46 c) (nI kd) (nI ky) v w) 82 0 = nu q 82 0 := nu_e (by simp (disch := omega) only [gcallq, rup_f, rupL_1])
          have n45 : nu (gcallq q c (nu q 46 c) (nI kd) (nI ky) v w) 45 0 = nu q 45 0 := nu_e (by simp (disch := omega) only [gcallq, rup_f, rupL_1])
          have n46 : nu (gcallq q c (nu q 46 c) (nI kd) (nI ky) v w) 46 c = nu q 46 c + 1 := nu_of (by unfold gcallq; rw [rup_at]) (by omega)
          have := NN_sends (c := c) (j := nu q 46 c) (key := ky) H' (by omega) (by omega) (by omega) y1
          rw [n82] at this
          exact this
