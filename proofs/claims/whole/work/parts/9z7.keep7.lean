/-! the invariant is kept: letters that a caller's call makes -/
theorem D_ans {q : xrho} {L : xLs} {n h c j : Nat} {v : Int64} {sg : Int32} (H : NN q L n) (hl : nu q 82 0 < 1200) (hc : c < nu q 45 0) (hj : j < nu q 46 c) : NN (gansw q (nu q 82 0) (nI h) (nI c) (nI j) v sg) L n := by
  have c6 := H.1.1.2
  have b := (H.1.2.1 c (by omega)).2
  have en : nlq q (nu q 82 0) (gansw q (nu q 82 0) (nI h) (nI c) (nI j) v sg) := nlq_up (nlq_upL (j := 0) (nlq_up (nlq_new _ _ _ _ _ _ _) (by decide))) (by decide)
  have g := gnew_at q (nu q 82 0) (Int32.ofInt 1) (nI c) (nI h) (Int32.ofInt (-9)) (Int32.ofInt (-9))
  have f : ∀ k i, k ≠ 66 → k ≠ 73 → (gansw q (nu q 82 0) (nI h) (nI c) (nI j) v sg).1 k i = (gnew q (nu q 82 0) (Int32.ofInt 1) (nI c) (nI h) (Int32.ofInt (-9)) (Int32.ofInt (-9))).1 k i := fun k i h1 h2 => by
    unfold gansw
    rw [rup_f _ _ _ _ h2, rupL_1, rup_f _ _ _ _ h1]
  have e66 : (gansw q (nu q 82 0) (nI h) (nI c) (nI j) v sg).1 66 (nu q 82 0) = nI j := by
    unfold gansw
    rw [rup_f _ _ _ _ (by decide), rupL_1, rup_at]
  have e61 := (f 61 (nu q 82 0) (by decide) (by decide)).trans g.2.1
  have n61 := nu_of e61 (by omega)
  have n66 := nu_of e66 (by omega)
  have n45 : nu (gansw q (nu q 82 0) (nI h) (nI c) (nI j) v sg) 45 0 = nu q 45 0 := nu_e (en.1 45 0 (by decide) (by decide))
  have n46 : nu (gansw q (nu q 82 0) (nI h) (nI c) (nI j) v sg) 46 c = nu q 46 c := nu_e (en.1 46 c (by decide) (by decide))
  refine NN_nl H hl en (fun x hx => ?_) (ltr_of (k := 1) (by decide) ((f 60 _ (by decide) (by decide)).trans g.1) (isN_of e61 (by omega) (by omega)) (fun e => absurd rfl e) (fun e => absurd e (by decide)) (fun _ => ?_) (fun e => absurd e (by decide)) (fun e => absurd e (by decide)) (fun e => absurd e (by decide)) (fun e => absurd e (by decide)) (fun e => absurd e (by decide)))
  · rw [f 76 x (by decide) (by decide), gnew_o _ _ _ _ _ _ _ (Or.inl (by decide)) (by decide)]
    exact H.2.2.2.2.1.2 x hx
  · unfold lt1
    rw [n61, n66, n45, n46]
    exact ⟨hc, isN_of e66 (by omega) (by omega), hj⟩
theorem D_old {q q' : xrho} {L : xLs} {n c : Nat} (H : NN q L n) (hl : nu q 82 0 < 1200) (en : nlq q (nu q 82 0) q') (hc : c < nu q 45 0) (e60 : q'.1 60 (nu q 82 0) = nI 2) (e61 : q'.1 61 (nu q 82 0) = nI c) (e76 : ∀ x, q'.1 76 x = q.1 76 x) (ht : q'.1 63 (nu q 82 0) ≠ Int32.ofInt (-9) → isN q' 63 (nu q 82 0) 39 ∧ isN q' 72 (nu q 82 0) 5 ∧ isN q' 70 (nu q 82 0) 9999 ∧ isN q' 71 (nu q 82 0) 10000 ∧ nu q' 70 (nu q 82 0) < nu q' 71 (nu q 82 0)) : NN q' L n := by
  have c6 := H.1.1.2
  have n61 := nu_of e61 (by omega)
  have n45 : nu q' 45 0 = nu q 45 0 := nu_e (en.1 45 0 (by decide) (by decide))
  refine NN_nl H hl en (fun x hx => by rw [e76]; exact H.2.2.2.2.1.2 x hx) (ltr_of (k := 2) (by decide) e60 (isN_of e61 (by omega) (by omega)) (fun _ e => absurd rfl e) (fun e => absurd e (by decide)) (fun e => absurd e (by decide)) (fun _ => ⟨by rw [n61, n45]; exact hc, ht⟩) (fun e => absurd e (by decide)) (fun e => absurd e (by decide)) (fun e => absurd e (by decide)) (fun e => absurd e (by decide)))
theorem knR_sm {q : xrho} {h : Nat} {key : Int32} : ∀ (m r : Nat) (o : Option Nat) (s : Nat), knR q h key r m o = some s → o = some s ∨ (r ≤ s ∧ s < r + m ∧ kno q h s key)
  | 0, _, _, _, e => Or.inl e
  | m + 1, r, o, s, e => by
    unfold knR at e
    rcases knR_sm m (r + 1) _ s e with a | a
    · split at a
      · next k =>
        injection a with a
        subst a
        exact Or.inr ⟨by omega, by omega, k⟩
      · exact Or.inl a
    · exact Or.inr ⟨by omega, by omega, a.2.2⟩
/-- the span of what a host owns -/
theorem N_span {q : xrho} {B : Int} {h r : Nat} (K : bkOK q) (hr : r < 40) (I : PIv q B) (c : q.1 15 (40 * h + r) = nI 1 ∨ q.1 15 (40 * h + r) = nI 2 ∨ q.1 15 (40 * h + r) = nI 3) : ∃ lo hi, q.1 16 (40 * h + r) = nI lo ∧ q.1 17 (40 * h + r) = nI hi ∧ lo ≤ 9999 ∧ hi ≤ 10000 ∧ lo < hi := by
  obtain ⟨s0, s1, s2, s3⟩ := N_own hr I c
  obtain ⟨x1, x2, x3, x4⟩ := K.2.1 r s0
  have z := (K.2.2.1 r hr s1).2
  have z4 : nu q 4 r ≤ 10000 := x4
  exact ⟨nu q 3 r, nu q 4 r, s2.trans x1, s3.trans x2, by omega, by omega, z⟩
theorem D_know {q : xrho} {L : xLs} {n h c j : Nat} {key : Int32} {B : Int} (I : PIv q B) (H : NN q L n) (hl : nu q 82 0 < 1200) (hh : h < 6) (hc : c < nu q 45 0) : NN (gknow q (nu q 82 0) h (nI c) (nI j) (knR q h key 0 (nu q 12 0) none) (knG q h key (nu q 44 0))) L n := by
  have n12 := H.1.2.2.2.1.2
  cases e1 : knR q h key 0 (nu q 12 0) none with
  | some r =>
    rcases knR_sm _ _ _ _ e1 with a | ⟨-, a, k⟩
    · exact absurd a (by simp)
    · obtain ⟨lo, hi, z1, z2, z3, z4, z5⟩ := N_span H.2.1.1 (show r < 40 by omega) I (k.1.elim Or.inl (fun e => Or.inr (Or.inl e)))
      have g := gnew_at q (nu q 82 0) (nI 2) (nI c) (nI h) (nI r) (q.1 18 (40 * h + r))
      have f : ∀ k i, k ≠ 66 → k ≠ 70 → k ≠ 71 → k ≠ 72 → (gknow q (nu q 82 0) h (nI c) (nI j) (some r) (knG q h key (nu q 44 0))).1 k i = (gnew q (nu q 82 0) (nI 2) (nI c) (nI h) (nI r) (q.1 18 (40 * h + r))).1 k i := fun k i h1 h2 h3 h4 => by
        unfold gknow
        rw [rup_f _ _ _ _ h4, rup_f _ _ _ _ h3, rup_f _ _ _ _ h2, rup_f _ _ _ _ h1]
      have en : nlq q (nu q 82 0) (gknow q (nu q 82 0) h (nI c) (nI j) (some r) (knG q h key (nu q 44 0))) := nlq_up (nlq_up (nlq_up (nlq_up (nlq_new _ _ _ _ _ _ _) (by decide)) (by decide)) (by decide)) (by decide)
      have e70 : (gknow q (nu q 82 0) h (nI c) (nI j) (some r) (knG q h key (nu q 44 0))).1 70 (nu q 82 0) = nI lo := by
        rw [← z1]; unfold gknow; rw [rup_f _ _ _ _ (by decide), rup_f _ _ _ _ (by decide), rup_at]
      have e71 : (gknow q (nu q 82 0) h (nI c) (nI j) (some r) (knG q h key (nu q 44 0))).1 71 (nu q 82 0) = nI hi := by
        rw [← z2]; unfold gknow; rw [rup_f _ _ _ _ (by decide), rup_at]
      have e72 : (gknow q (nu q 82 0) h (nI c) (nI j) (some r) (knG q h key (nu q 44 0))).1 72 (nu q 82 0) = nI h := by
        unfold gknow; rw [rup_at]
      refine D_old H hl en hc ((f 60 _ (by decide) (by decide) (by decide) (by decide)).trans g.1) ((f 61 _ (by decide) (by decide) (by decide) (by decide)).trans g.2.1) (fun x => by rw [f 76 x (by decide) (by decide) (by decide) (by decide), gnew_o _ _ _ _ _ _ _ (Or.inl (by decide)) (by decide)]) (fun _ => ⟨isN_of ((f 63 _ (by decide) (by decide) (by decide) (by decide)).trans g.2.2.2.1) (by omega) (by omega), isN_of e72 (by omega) (by omega), isN_of e70 (by omega) (by omega), isN_of e71 (by omega) (by omega), ?_⟩)
      rw [nu_of e70 (by omega), nu_of e71 (by omega)]
      exact z5
  | none =>
    cases e2 : knG q h key (nu q 44 0) with
    | some gg =>
      obtain ⟨w1, w2, w3, w4, w5⟩ := H.2.2.2.2.2.2.1 gg (knG_lt _ _ e2)
      have g := gnew_at q (nu q 82 0) (nI 2) (nI c) (nI h) (q.1 39 gg) (q.1 42 gg)
      have f : ∀ k i, k ≠ 66 → k ≠ 70 → k ≠ 71 → k ≠ 72 → (gknow q (nu q 82 0) h (nI c) (nI j) none (some gg)).1 k i = (gnew q (nu q 82 0) (nI 2) (nI c) (nI h) (q.1 39 gg) (q.1 42 gg)).1 k i := fun k i h1 h2 h3 h4 => by
        unfold gknow
        rw [rup_f _ _ _ _ h4, rup_f _ _ _ _ h3, rup_f _ _ _ _ h2, rup_f _ _ _ _ h1]
      have en : nlq q (nu q 82 0) (gknow q (nu q 82 0) h (nI c) (nI j) none (some gg)) := nlq_up (nlq_up (nlq_up (nlq_up (nlq_new _ _ _ _ _ _ _) (by decide)) (by decide)) (by decide)) (by decide)
      have e70 : (gknow q (nu q 82 0) h (nI c) (nI j) none (some gg)).1 70 (nu q 82 0) = nI (nu q 40 gg) := by
        rw [← w3.1]; unfold gknow; rw [rup_f _ _ _ _ (by decide), rup_f _ _ _ _ (by decide), rup_at]
      have e71 : (gknow q (nu q 82 0) h (nI c) (nI j) none (some gg)).1 71 (nu q 82 0) = nI (nu q 41 gg) := by
        rw [← w4.1]; unfold gknow; rw [rup_f _ _ _ _ (by decide), rup_at]
      have e72 : (gknow q (nu q 82 0) h (nI c) (nI j) none (some gg)).1 72 (nu q 82 0) = nI (nu q 43 gg) := by
        rw [← w2.1]; unfold gknow; rw [rup_at]
      have b1 := w1.2
      have b2 := w2.2
      have b3 := w3.2
      have b4 := w4.2
      refine D_old H hl en hc ((f 60 _ (by decide) (by decide) (by decide) (by decide)).trans g.1) ((f 61 _ (by decide) (by decide) (by decide) (by decide)).trans g.2.1) (fun x => by rw [f 76 x (by decide) (by decide) (by decide) (by decide), gnew_o _ _ _ _ _ _ _ (Or.inl (by decide)) (by decide)]) (fun _ => ⟨isN_of (((f 63 _ (by decide) (by decide) (by decide) (by decide)).trans g.2.2.2.1).trans w1.1) b1 (by omega), isN_of e72 b2 (by omega), isN_of e70 b3 (by omega), isN_of e71 b4 (by omega), ?_⟩)
      rw [nu_of e70 (by omega), nu_of e71 (by omega)]
      exact w5
    | none =>
      have g := gnew_at q (nu q 82 0) (nI 2) (nI c) (nI h) (Int32.ofInt (-9)) (Int32.ofInt (-9))
      have f : ∀ k i, k ≠ 66 → (gknow q (nu q 82 0) h (nI c) (nI j) none none).1 k i = (gnew q (nu q 82 0) (nI 2) (nI c) (nI h) (Int32.ofInt (-9)) (Int32.ofInt (-9))).1 k i := fun k i h1 => rup_f _ _ _ _ h1
      have en : nlq q (nu q 82 0) (gknow q (nu q 82 0) h (nI c) (nI j) none none) := nlq_up (nlq_new _ _ _ _ _ _ _) (by decide)
      exact D_old H hl en hc ((f 60 _ (by decide)).trans g.1) ((f 61 _ (by decide)).trans g.2.1) (fun x => by rw [f 76 x (by decide), gnew_o _ _ _ _ _ _ _ (Or.inl (by decide)) (by decide)]) (fun e => absurd ((f 63 _ (by decide)).trans g.2.2.2.1) e)
