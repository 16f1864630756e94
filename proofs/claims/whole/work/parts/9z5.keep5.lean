/-! the invariant is kept: step -/
theorem gp_at (q : xrho) (h r n : Nat) : (gpart q h r n).1 60 n = nI 4 ∧ (gpart q h r n).1 61 n = q.1 21 (40 * h + r) ∧ (gpart q h r n).1 62 n = nI h ∧ (gpart q h r n).1 63 n = nI r ∧ (gpart q h r n).1 70 n = q.1 16 (40 * h + r) ∧ (gpart q h r n).1 71 n = q.1 17 (40 * h + r) := by
  have a := gnew_at q n (nI 4) (q.1 21 (40 * h + r)) (nI h) (nI r) (q.1 18 (40 * h + r) + nI 1)
  have f : ∀ k, k ≠ 67 → k ≠ 68 → k ≠ 70 → k ≠ 71 → (gpart q h r n).1 k n = (gnew q n (nI 4) (q.1 21 (40 * h + r)) (nI h) (nI r) (q.1 18 (40 * h + r) + nI 1)).1 k n := fun k h1 h2 h3 h4 => by
    unfold gpart
    rw [rup_f _ _ _ _ h4, rup_f _ _ _ _ h3, rup_f _ _ _ _ h2, rup_f _ _ _ _ h1]
  refine ⟨(f 60 (by decide) (by decide) (by decide) (by decide)).trans a.1, (f 61 (by decide) (by decide) (by decide) (by decide)).trans a.2.1, (f 62 (by decide) (by decide) (by decide) (by decide)).trans a.2.2.1, (f 63 (by decide) (by decide) (by decide) (by decide)).trans a.2.2.2.1, ?_, ?_⟩
  · unfold gpart
    rw [rup_f _ _ _ _ (by decide), rup_at]
  · unfold gpart
    rw [rup_at]
theorem gp_76 (q : xrho) (h r n : Nat) {k i : Nat} (hk : 73 ≤ k ∧ k ≠ 82) : (gpart q h r n).1 k i = q.1 k i := by
  unfold gpart
  rw [rup_f _ _ _ _ (by omega), rup_f _ _ _ _ (by omega), rup_f _ _ _ _ (by omega), rup_f _ _ _ _ (by omega), gnew_o _ _ _ _ _ _ _ (Or.inl (by omega)) hk.2]
/-- the letter of a part -/
theorem ltr_p {q q' : xrho} {h r n : Nat} (hh : h < 6) (hr : r < 40) (h21 : isN q 21 (40 * h + r) 5) (e : ∀ k, 60 ≤ k → k ≤ 63 → q'.1 k n = (gpart q h r n).1 k n) (h69 : q'.1 69 n = Int32.ofInt (-1) ∨ isN q' 69 n 3) (hk : ∀ j, j < nu q' 69 n → AKey q' (q'.1 74 (3 * n + j))) : ltr q' n := by
  have g := gp_at q h r n
  have e60 := (e 60 (by decide) (by decide)).trans g.1
  have e61 := (e 61 (by decide) (by decide)).trans g.2.1
  have e62 := (e 62 (by decide) (by decide)).trans g.2.2.1
  have e63 := (e 63 (by decide) (by decide)).trans g.2.2.2.1
  exact ltr_of (k := 4) (by decide) e60 (isN_of (e61.trans h21.1) h21.2 (by have := h21.2; omega)) (fun _ _ => isN_of e63 (by omega) (by omega)) (fun e => absurd e (by decide)) (fun e => absurd e (by decide)) (fun e => absurd e (by decide)) (fun e => absurd e (by decide)) (fun _ => ⟨h69, isN_of e62 (by omega) (by omega), hk⟩) (fun e => absurd e (by decide)) (fun e => absurd e (by decide))
/-- a holding's fields -/
theorem NN_hd {q q' : xrho} {L : xLs} {n p : Nat} (H : NN q L n) (h2 : q'.2 = q.2) (hf : ∀ k i, ¬ (15 ≤ k ∧ k ≤ 33) ∨ i ≠ p → q'.1 k i = q.1 k i) (h6 : hd6 q' p) : NN q' L n := by
  obtain ⟨a1, a2, a3, a4, a5, a6, a7, a8, a9⟩ := H
  have f : ∀ k, ¬ (15 ≤ k ∧ k ≤ 33) → q'.1 k = q.1 k := fun k hk => funext fun i => hf k i (Or.inl hk)
  refine ⟨N1_f (fun k hk => f k (by omega)) a1, N2_f (fun k hk => f k (by omega)) a2, N3_f (fun k hk => f k (by omega)) (by rw [h2]) a3, N4_f (fun k hk => f k (by omega)) a4, N5_f (fun k hk => f k (by omega)) a5, fun s hs => ?_, N7_f (fun k hk => f k (by omega)) a7, N8_f (fun k hk => f k (by omega)) a8, N9_f (fun k hk => f k (by omega)) a9⟩
  by_cases c : s = p
  · rw [c]; exact h6
  · have g : ∀ k, q'.1 k s = q.1 k s := fun k => hf k s (Or.inr c)
    have F : ∀ k i, 34 ≤ k → q'.1 k i = q.1 k i := fun k i hk => by rw [f k (by omega)]
    obtain ⟨b1, b2, b3⟩ := a6 s hs
    refine ⟨isN_e (g 15) b1, isN_e (g 21) b2, fun x y => ?_⟩
    rw [g 15] at x
    rw [g 32] at y
    have z := b3 x y
    rw [nu_e (g 29), nu_e (F 82 0 (by decide)), F 60 _ (by decide), F 69 _ (by decide), F 70 _ (by decide), F 71 _ (by decide), g 28, g 16, g 17]
    exact ⟨isN_e (g 29) z.1, z.2⟩
/-- the giver's last letter is noted -/
theorem NN_give {q : xrho} {L : xLs} {n p l : Nat} {y : Int32} (H : NN q L n) (hp : p < 240) (hl : l < nu q 82 0) (e60 : q.1 60 l = nI 4) (e69 : q.1 69 l = y) (e70 : q.1 70 l = q.1 16 p) (e71 : q.1 71 l = q.1 17 p) : NN (rup (rup (rup q 29 p (nI l)) 28 p y) 32 p (nI 0)) L n := by
  have b82 := H.1.2.2.1.2
  have z := H.2.2.2.2.2.1 p hp
  refine NN_hd (p := p) H rfl (fun k i hk => ?_) ⟨z.1, z.2.1, fun _ _ => ?_⟩
  · rcases hk with hk | hk
    · simp (disch := omega) only [rup_f]
    · simp (disch := omega) only [rup_y]
  · have e29 : (rup (rup (rup q 29 p (nI l)) 28 p y) 32 p (nI 0)).1 29 p = nI l := by simp (disch := omega) only [rup_f, rup_at]
    have n29 := nu_of e29 (by omega)
    rw [n29]
    refine ⟨isN_of e29 (by omega) (by omega), hl, e60, ?_, e70, e71⟩
    have e28 : (rup (rup (rup q 29 p (nI l)) 28 p y) 32 p (nI 0)).1 28 p = y := by simp (disch := omega) only [rup_f, rup_at]
    rw [e28]
    exact e69
theorem AK_nl {q q' : xrho} {l : Nat} (e : nlq q l q') {key : Int32} (h : AKey q key) : AKey q' key := by
  obtain ⟨c, j, x, y, z⟩ := h
  exact ⟨c, j, x, by rw [nu_e (e.1 46 c (by decide) (by decide))]; exact y, by rw [e.1 48 _ (by decide) (by decide)]; exact z⟩
theorem NN_gga {q : xrho} {L : xLs} {n h r : Nat} (H : NN q L n) (hl : nu q 82 0 < 1200) (hh : h < 6) (hr : r < 40) (c : q.1 15 (40 * h + r) = nI 2 ∨ q.1 15 (40 * h + r) = nI 3) (c32 : q.1 32 (40 * h + r) = 0) : NN (gga q h r (nu q 82 0) (nu q 29 (40 * h + r))) L n := by
  have z := H.2.2.2.2.2.1 (40 * h + r) (by omega)
  obtain ⟨w1, w2, w3, w4, w5, w6⟩ := z.2.2 c c32
  have lw := H.2.2.2.1 _ w2
  have l4 := lw.2.2.2.2.2.2.2.1 (nu_of w3 (by decide))
  have en : nlq q (nu q 82 0) (gga q h r (nu q 82 0) (nu q 29 (40 * h + r))) := nlq_ck (nlq_up (gpart_nl q h r _) (by decide))
  have f : ∀ k i, k ≠ 74 → k ≠ 76 → (gga q h r (nu q 82 0) (nu q 29 (40 * h + r))).1 k i = (rup (gpart q h r (nu q 82 0)) 69 (nu q 82 0) (q.1 69 (nu q 29 (40 * h + r)))).1 k i := fun k i h1 h2 => by
    unfold gga
    rw [ck3_ne h1 h2]
  have e69 : (gga q h r (nu q 82 0) (nu q 29 (40 * h + r))).1 69 (nu q 82 0) = q.1 69 (nu q 29 (40 * h + r)) := by rw [f 69 _ (by decide) (by decide), rup_at]
  have n69 : nu (gga q h r (nu q 82 0) (nu q 29 (40 * h + r))) 69 (nu q 82 0) = nu q 69 (nu q 29 (40 * h + r)) := by unfold nu; rw [show (gga q h r (q.1 82 0).toNatClampNeg (q.1 29 (40 * h + r)).toNatClampNeg).1 69 (q.1 82 0).toNatClampNeg = _ from e69]; rfl
  have e74 : ∀ j, j < 3 → (gga q h r (nu q 82 0) (nu q 29 (40 * h + r))).1 74 (3 * nu q 82 0 + j) = q.1 74 (3 * nu q 29 (40 * h + r) + j) := fun j hj => by
    unfold gga
    rw [ck3_1, if_neg (by decide), if_pos rfl]
    unfold cpF
    rw [if_pos (by omega), show 3 * nu q 29 (40 * h + r) + (3 * nu q 82 0 + j - 3 * nu q 82 0) = 3 * nu q 29 (40 * h + r) + j by omega]
  have e76 : ∀ x, x < 3600 → xbool ((gga q h r (nu q 82 0) (nu q 29 (40 * h + r))).1 76 x) = true := fun x hx => by
    unfold gga
    rw [ck3_1, if_pos rfl]
    unfold cpF
    split
    · exact H.2.2.2.2.1.2 _ (by omega)
    · rw [rup_f _ _ _ _ (by decide), gp_76 _ _ _ _ (by decide)]
      exact H.2.2.2.2.1.2 x hx
  refine NN_nl H hl en e76 (ltr_p hh hr z.2.1 (fun k h1 h2 => by rw [f k _ (by omega) (by omega), rup_f _ _ _ _ (by omega)]) ?_ (fun j hj => ?_))
  · rw [e69]
    exact l4.1.imp id (fun t => isN_of (e69.trans t.1) t.2 (by have := t.2; omega))
  · rw [n69] at hj
    have h3 : nu q 69 (nu q 29 (40 * h + r)) ≤ 3 := l4.1.elim (fun e => by rw [nu_m1 e]; omega) (fun e => e.2)
    rw [e74 j (by omega)]
    exact AK_nl en (l4.2.2 j hj)
theorem NN_L {q : xrho} {L L' : xLs} {n : Nat} (H : NN q L n) (h : N9 q L') : NN q L' n := ⟨H.1, H.2.1, H.2.2.1, H.2.2.2.1, H.2.2.2.2.1, H.2.2.2.2.2.1, H.2.2.2.2.2.2.1, H.2.2.2.2.2.2.2.1, h⟩
theorem NN_9 {q : xrho} {L : xLs} {n : Nat} (H : NN q L n) : N9 q L := H.2.2.2.2.2.2.2.2
theorem NN_gends {q : xrho} {L : xLs} {n h r : Nat} (H : NN q L n) (hl : nu q 82 0 < 1200) (hh : h < 6) (hr : r < 40) (c : ¬ q.1 32 (40 * h + r) = 0) : NN (gends (rup q 15 (40 * h + r) (nI 3)) h r (nu q 82 0)) L n := by
  have z := H.2.2.2.2.2.1 (40 * h + r) (by omega)
  have H1 : NN (rup q 15 (40 * h + r) (nI 3)) L n := by
    refine NN_hd (p := 40 * h + r) H rfl (fun k i hk => ?_) ⟨isN_of (rup_at _ _ _ _) (by decide) (by decide), z.2.1, fun _ y => absurd y c⟩
    rcases hk with hk | hk
    · exact rup_f _ _ _ _ (by omega)
    · exact rup_y _ _ _ _ hk
  have n82 : nu (rup q 15 (40 * h + r) (nI 3)) 82 0 = nu q 82 0 := nu_e (by simp (disch := omega) only [rup_f])
  have z1 := H1.2.2.2.2.2.1 (40 * h + r) (by omega)
  generalize rup q 15 (40 * h + r) (nI 3) = q1 at *
  rw [← n82] at hl ⊢
  have en : nlq q1 (nu q1 82 0) (rup (gpart q1 h r (nu q1 82 0)) 69 (nu q1 82 0) (Int32.ofInt (-1))) := nlq_up (gpart_nl _ _ _ _) (by decide)
  have g := gp_at q1 h r (nu q1 82 0)
  have e69 := rup_at (gpart q1 h r (nu q1 82 0)) 69 (nu q1 82 0) (Int32.ofInt (-1))
  have H2 : NN (rup (gpart q1 h r (nu q1 82 0)) 69 (nu q1 82 0) (Int32.ofInt (-1))) L n := NN_nl H1 hl en (fun x hx => by rw [rup_f _ _ _ _ (by decide), gp_76 _ _ _ _ (by decide)]; exact H1.2.2.2.2.1.2 x hx) (ltr_p hh hr z1.2.1 (fun k h1 h2 => rup_f _ _ _ _ (by omega)) (Or.inl e69) (fun j hj => by rw [nu_m1 e69] at hj; omega))
  unfold gends
  refine NN_give H2 (by omega) (by rw [nu_nl en hl]; omega) ((rup_f _ _ _ _ (by decide)).trans g.1) e69 ?_ ?_
  · rw [rup_f _ _ _ _ (by decide), rup_f _ _ _ _ (by decide), g.2.2.2.2.1, (gpart_nl q1 h r _).1 16 _ (by decide) (by decide)]
  · rw [rup_f _ _ _ _ (by decide), rup_f _ _ _ _ (by decide), g.2.2.2.2.2, (gpart_nl q1 h r _).1 17 _ (by decide) (by decide)]
theorem NN_ggv {q : xrho} {L : xLs} {n h r : Nat} {acc : PW} (H : NN q L n) (hl : nu q 82 0 < 1200) (hh : h < 6) (hr : r < 40) (al : acc.length ≤ 3) (hb : ∀ x ∈ acc, xbool x.2.1 = true) (hk : ∀ x ∈ acc, AKey q x.1) : NN (ggv q h r (nu q 82 0) acc) L n := by
  have z1 := H.2.2.2.2.2.1 (40 * h + r) (by omega)
  have en : nlq q (nu q 82 0) (rup (wrP (gpart q h r (nu q 82 0)) (nu q 82 0) acc) 69 (nu q 82 0) (nI acc.length)) := nlq_up (nlq_wr (gpart_nl _ _ _ _)) (by decide)
  have g := gp_at q h r (nu q 82 0)
  have e69 := rup_at (wrP (gpart q h r (nu q 82 0)) (nu q 82 0) acc) 69 (nu q 82 0) (nI acc.length)
  have f : ∀ k i, k ≠ 69 → k ≠ 74 → k ≠ 76 → (rup (wrP (gpart q h r (nu q 82 0)) (nu q 82 0) acc) 69 (nu q 82 0) (nI acc.length)).1 k i = (gpart q h r (nu q 82 0)).1 k i := fun k i h1 h2 h3 => by rw [rup_f _ _ _ _ h1, wrP_1, if_neg h3, if_neg h2]
  have H2 : NN (rup (wrP (gpart q h r (nu q 82 0)) (nu q 82 0) acc) 69 (nu q 82 0) (nI acc.length)) L n := by
    refine NN_nl H hl en (fun x hx => ?_) (ltr_p hh hr z1.2.1 (fun k h1 h2 => f k _ (by omega) (by omega) (by omega)) (Or.inr (isN_of e69 al (by omega))) (fun j hj => ?_))
    · rw [rup_f _ _ _ _ (by decide), wrP_1, if_pos rfl]
      unfold wrF
      rw [gp_76 _ _ _ _ (by decide)]
      split
      · by_cases c : x - 3 * nu q 82 0 < acc.length
        · rw [List.getElem?_map, List.getElem?_eq_getElem c]
          exact hb _ (List.getElem_mem c)
        · rw [List.getElem?_eq_none (by rw [List.length_map]; omega)]
          exact H.2.2.2.2.1.2 x hx
      · exact H.2.2.2.2.1.2 x hx
    · rw [nu_of e69 (by omega)] at hj
      rw [rup_f _ _ _ _ (by decide), wrP_1, if_neg (by decide), if_pos rfl]
      unfold wrF
      rw [if_pos (by omega), List.getElem?_map, show 3 * nu q 82 0 + j - 3 * nu q 82 0 = j by omega, List.getElem?_eq_getElem hj]
      exact AK_nl en (hk _ (List.getElem_mem hj))
  unfold ggv
  refine NN_give H2 (by omega) (by rw [nu_nl en hl]; omega) ((f 60 _ (by decide) (by decide) (by decide)).trans g.1) e69 ?_ ?_
  · rw [f 70 _ (by decide) (by decide) (by decide), f 16 _ (by decide) (by decide) (by decide), g.2.2.2.2.1, (gpart_nl q h r _).1 16 _ (by decide) (by decide)]
  · rw [f 71 _ (by decide) (by decide) (by decide), f 17 _ (by decide) (by decide) (by decide), g.2.2.2.2.2, (gpart_nl q h r _).1 17 _ (by decide) (by decide)]
theorem NN_agv {q : xrho} {L : xLs} {n h r : Nat} {B : Int} (I : PIv q B) (H : NN q L n) (hh : h < 6) (hr : r < 40) (hl : q.1 15 (40 * h + r) = nI 2 ∨ q.1 15 (40 * h + r) = nI 3 → nu q 82 0 < 1200) : NN (agv q L h r).1 (agv q L h r).2 n := by
  unfold agv
  by_cases c2 : q.1 15 (40 * h + r) = nI 2
  · rw [if_pos c2]
    have hl := hl (Or.inl c2)
    by_cases c : q.1 32 (40 * h + r) = 0
    · rw [if_pos c]
      exact NN_L (NN_gga H hl hh hr (Or.inl c2) c) (NN_9 (NN_gga H hl hh hr (Or.inl c2) c))
    · rw [if_neg c]
      by_cases cl : (L.2.1 (40 * h + r)).length = 0
      · rw [if_pos cl]
        exact NN_L (NN_gends H hl hh hr c) (NN_9 (NN_gends H hl hh hr c))
      · rw [if_neg cl]
        have G := NN_ggv (acc := gvA (L.1 (40 * h + r)) (L.2.1 (40 * h + r))) H hl hh hr (gvA_len _ _) (gvA_b _ _) (gvA_P ((NN_9 H) _ (by omega)).2)
        refine NN_L G (fun p hp => ⟨(NN_9 G p hp).1, fun k hk => ?_⟩)
        have hk : k ∈ va_up L.2.1 (40 * h + r) (rstS ((gvA (L.1 (40 * h + r)) (L.2.1 (40 * h + r))).map Prod.fst) (L.2.1 (40 * h + r))) p := hk
        by_cases e : p = 40 * h + r
        · rw [e, va_up_self] at hk
          exact (NN_9 G _ (by omega)).2 k (List.mem_filter.mp hk).1
        · rw [va_up_ne _ _ e] at hk
          exact (NN_9 G p hp).2 k hk
  · rw [if_neg c2]
    by_cases c3 : q.1 15 (40 * h + r) = nI 3
    · rw [if_pos c3]
      have hl := hl (Or.inr c3)
      by_cases c : q.1 33 (40 * h + r) = 0
      · rw [if_pos c]
        have c32 := (N_gv I (Or.inr c3)).2.2 c3 c
        exact NN_L (NN_gga H hl hh hr (Or.inr c3) c32) (NN_9 (NN_gga H hl hh hr (Or.inr c3) c32))
      · rw [if_neg c]
        exact NN_new H hl (by decide) ⟨0, by decide, rfl⟩ ⟨r, by omega, rfl⟩ (fun e => absurd e (by decide))
    · rw [if_neg c3]
      exact H
