/-! the invariant is kept: keys of rows -/
theorem putL_P {P : Int32 → Prop} {l : RW} {key : Int32} {v : Int64} (h : ∀ x ∈ l, P x.1) (hk : P key) : ∀ x ∈ (putL l key v).2, P x.1 := fun x hx => by
  unfold putL at hx
  split at hx
  · unfold setK at hx
    obtain ⟨y, hy, e⟩ := List.mem_map.mp hx
    split at e
    · rw [← e]; exact hk
    · rw [← e]; exact h y hy
  · split at hx
    · exact h x hx
    · rcases insR_mem.mp hx with e | e
      · rw [e]; exact hk
      · exact h x e
theorem dropK_P {P : Int32 → Prop} {l : RW} {key : Int32} (h : ∀ x ∈ l, P x.1) : ∀ x ∈ dropK Prod.fst key l, P x.1 := fun x hx => h x (List.mem_filter.mp hx).1
theorem addK_P {P : Int32 → Prop} {l : List Int32} {key : Int32} (h : ∀ x ∈ l, P x) (hk : P key) : ∀ x ∈ addK l key, P x := fun x hx => by
  unfold addK at hx
  split at hx
  · exact h x hx
  · rcases insR_mem.mp hx with e | e
    · rw [e]; exact hk
    · exact h x e
theorem addF_P {P : Int32 → Prop} : ∀ (ks l : List Int32), (∀ x ∈ ks, P x) → (∀ x ∈ l, P x) → ∀ x ∈ ks.foldl addK l, P x
  | [], _, _, h => h
  | k :: ks, l, hk, h => addF_P ks (addK l k) (fun x hx => hk x (List.mem_cons_of_mem _ hx)) (addK_P h (hk k (List.mem_cons_self ..)))
theorem sndL_P {P : Int32 → Prop} {R : RW} (h : ∀ x ∈ R, P x.1) : ∀ x ∈ sndL R, P x := addF_P _ _ (fun x hx => by
  obtain ⟨y, hy, e⟩ := List.mem_map.mp hx
  rw [← e]; exact h y hy) (fun x hx => absurd hx (by simp))
theorem putF_P {P : Int32 → Prop} : ∀ (l R : RW), (∀ x ∈ l, P x.1) → (∀ x ∈ R, P x.1) → ∀ x ∈ l.foldl putA R, P x.1
  | [], _, _, h => h
  | y :: l, R, hl, h => putF_P l (putA R y) (fun x hx => hl x (List.mem_cons_of_mem _ hx)) (putL_P h (hl y (List.mem_cons_self ..)))
theorem chF_P {R : RW} {w : Bool} {P : Int32 → Prop} : ∀ (s : List Int32) (acc : PW), (∀ x ∈ s, P x) → (∀ x ∈ acc, P x.1) → ∀ x ∈ s.foldl (chL R w) acc, P x.1
  | [], _, _, h => h
  | k :: s, acc, hs, h => chF_P s (chL R w acc k) (fun x hx => hs x (List.mem_cons_of_mem _ hx)) (fun x hx => by
    unfold chL at hx
    split at hx
    · exact h x hx
    · rcases List.mem_append.mp hx with e | e
      · exact h x e
      · rw [List.mem_singleton.mp e]; exact hs k (List.mem_cons_self ..))
theorem gvA_P {R : RW} {s : List Int32} {P : Int32 → Prop} (h : ∀ x ∈ s, P x) : ∀ x ∈ gvA R s, P x.1 := chF_P _ _ h (chF_P _ _ h (fun x hx => absurd hx (by simp)))
theorem tkF_P {P : Int32 → Prop} : ∀ (l : List (Int32 × Int32 × Int64)) (R : RW), (∀ x ∈ l, P x.1) → (∀ x ∈ R, P x.1) → ∀ x ∈ l.foldl tkP R, P x.1
  | [], _, _, h => h
  | y :: l, R, hl, h => tkF_P l (tkP R y) (fun x hx => hl x (List.mem_cons_of_mem _ hx)) (by
    unfold tkP
    split
    · exact dropK_P h
    · exact putL_P h (hl y (List.mem_cons_self ..)))
theorem doA_P {P : Int32 → Prop} {R : RW} {kind : Nat} {key : Int32} {v w : Int64} (h : ∀ x ∈ R, P x.1) (hk : P key) : ∀ x ∈ (doA R kind key v w).1, P x.1 := by
  unfold doA
  split
  · exact h
  · cases (putL R key v).1
    · exact h
    · exact putL_P h hk
  · exact dropK_P h
  · cases (putL R key (lkv (lkp Prod.fst key R) + v)).1
    · exact h
    · exact putL_P h hk
  · cases ((lkp Prod.fst key R).isSome && decide (lkv (lkp Prod.fst key R) = v))
    · exact h
    · exact putL_P h hk
/-! the book: move, undo -/
theorem NN_7 {q : xrho} {L : xLs} {n r : Nat} {x : Int32} (H : NN q L n) (hx : x < 0 ∨ ∃ m, m ≤ 5 ∧ x = nI m) : NN (rup q 7 r x) L n := by
  obtain ⟨a1, a2, a3, a4, a5, a6, a7, a8, a9⟩ := H
  refine ⟨N1_f (fun k hk => funext fun i => by simp (disch := omega) only [rup_f]) a1, ⟨a2.1, fun s hs => ⟨?_, (a2.2 s hs).2⟩⟩, N3_f (q := q) (fun k hk => funext fun i => by simp (disch := omega) only [rup_f]) rfl a3, N4_f (fun k hk => funext fun i => by simp (disch := omega) only [rup_f]) a4, N5_f (fun k hk => funext fun i => by simp (disch := omega) only [rup_f]) a5, N6_f (fun k hk => funext fun i => by simp (disch := omega) only [rup_f]) a6, N7_f (fun k hk => funext fun i => by simp (disch := omega) only [rup_f]) a7, N8_f (fun k hk => funext fun i => by simp (disch := omega) only [rup_f]) a8, N9_f (fun k hk => funext fun i => by simp (disch := omega) only [rup_f]) a9⟩
  by_cases c : s = r
  · rw [c, rup_at]
    exact hx.imp id (fun ⟨m, a, b⟩ => isN_of ((rup_at _ _ _ _).trans b) a (by omega))
  · have e : (rup q 7 r x).1 7 s = q.1 7 s := rup_y _ _ _ _ c
    rw [e]
    exact (a2.2 s hs).1.imp id (isN_e e)
theorem NN_10 {q : xrho} {L : xLs} {n r m k : Nat} {x : Int32} (H : NN q L n) (hk : k = 10 ∨ k = 11) (hm : m ≤ 5) (hx : x = nI m) : NN (rup q k r x) L n := by
  obtain ⟨a1, a2, a3, a4, a5, a6, a7, a8, a9⟩ := H
  refine ⟨N1_f (fun k hk => funext fun i => by simp (disch := omega) only [rup_f]) a1, ⟨?_, fun s hs => ⟨?_, ?_⟩⟩, N3_f (q := q) (fun k hk => funext fun i => by simp (disch := omega) only [rup_f]) rfl a3, N4_f (fun k hk => funext fun i => by simp (disch := omega) only [rup_f]) a4, N5_f (fun k hk => funext fun i => by simp (disch := omega) only [rup_f]) a5, N6_f (fun k hk => funext fun i => by simp (disch := omega) only [rup_f]) a6, N7_f (fun k hk => funext fun i => by simp (disch := omega) only [rup_f]) a7, N8_f (fun k hk => funext fun i => by simp (disch := omega) only [rup_f]) a8, N9_f (fun k hk => funext fun i => by simp (disch := omega) only [rup_f]) a9⟩
  · rcases hk with e | e <;> subst e <;> exact a2.1
  · rcases hk with e | e <;> subst e <;> exact (a2.2 s hs).1
  · have u : ∀ j, j = 10 ∨ j = 11 → isN q j s 5 → isN (rup q k r x) j s 5 := fun j hj z => by
      by_cases c : j = k ∧ s = r
      · obtain ⟨c1, c2⟩ := c
        subst c1
        subst c2
        exact isN_of ((rup_at _ _ _ _).trans hx) hm (by omega)
      · exact isN_e (by rw [rup_r, if_neg c]) z
    exact ⟨u 10 (by decide) (a2.2 s hs).2.1, u 11 (by decide) (a2.2 s hs).2.2⟩
theorem grng_some {q : xrho} {x : Int32} {r : Nat} (h12 : isN q 12 0 40) (h : grng q x = some r) : r < nu q 12 0 ∧ r < 40 ∧ q.1 2 r = 1 := by
  unfold grng at h
  split at h
  · exact absurd h (by simp)
  · next j e =>
    split at h
    · next e2 =>
      injection h with h
      subst h
      have := ix_lt (by have := h12.2; omega) e
      exact ⟨this, by have := h12.2; omega, e2⟩
    · exact absurd h (by simp)
theorem NN_move {q : xrho} {L : xLs} {n : Nat} {x y : Int32} (H : NN q L n) : NN (gmove q x y).2 L n := by
  unfold gmove
  split
  · exact NN_ref H
  · next r e1 =>
    obtain ⟨r1, r2, r3⟩ := grng_some H.1.2.2.2.1 e1
    split
    · exact NN_ref H
    · next h e2 =>
      have hh := ix_lt (by decide) e2
      split
      · exact NN_ref H
      · split
        · exact NN_ref H
        · split
          · exact NN_ref H
          · next c =>
            have b82 := H.1.2.2.1.2
            have H1 : NN (rup (rup q 7 r (nI h)) 8 r (q.1 5 r + nI 1)) L n := NN_rup (NN_7 H (Or.inr ⟨h, by omega, rfl⟩)) (by unfold rel; decide)
            have n82 : nu (rup (rup q 7 r (nI h)) 8 r (q.1 5 r + nI 1)) 82 0 = nu q 82 0 := nu_e (by simp (disch := omega) only [rup_f])
            have := NN_gbeg (r := r) H1 (by omega) r2 (isN_of (n := h) (by simp (disch := omega) only [rup_f, rup_at]) (by omega) (by omega))
            rw [n82] at this
            exact this
theorem NN_undo {q : xrho} {L : xLs} {n : Nat} {x : Int32} (H : NN q L n) : NN (gundo q x).2 L n := by
  unfold gundo
  split
  · exact NN_ref H
  · next r e1 =>
    obtain ⟨r1, r2, r3⟩ := grng_some H.1.2.2.2.1 e1
    split
    · exact NN_ref H
    · split
      · exact NN_ref H
      · next c7 =>
        split
        · exact NN_ref H
        · next c82 =>
          have h6 := H.2.1.1.2.2.2.2.2.1 r r2
          have h7 : isN q 7 r 5 := (H.2.1.2 r r2).1.resolve_left (fun hc => c7 (fun hz => absurd hc (Int32.not_lt.mpr hz)))
          have H1 : NN (gundoq q r) L n := by
            unfold gundoq
            refine NN_rup (NN_7 (NN_rup (NN_rup (NN_rup (NN_10 (NN_10 H (Or.inl rfl) h6.2 h6.1) (Or.inr rfl) h7.2 h7.1) (by unfold rel; decide)) (by unfold rel; decide)) (by unfold rel; decide)) (Or.inl (by decide))) (by unfold rel; decide)
          have n82 : nu (gundoq q r) 82 0 = nu q 82 0 := nu_e (by simp (disch := omega) only [gundoq, rup_f])
          have H2 := NN_gowL (r := r) (k := 2) H1 (by omega) r2 (by decide)
          rw [n82] at H2
          have n83 : nu (gowedL (gundoq q r) r 2 (nu q 82 0)) 82 0 = nu q 82 0 + 1 := nu_nl (gow_nl _ _ _ _) (by omega)
          have H3 := NN_gowL (r := r) (k := 3) H2 (by omega) r2 (by decide)
          rw [n83] at H3
          exact H3
