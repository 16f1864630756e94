/-! the invariant is kept: deliver, letters of the book; deliver -/
theorem NN_6 {q : xrho} {L : xLs} {n r m : Nat} {x : Int32} (H : NN q L n) (hm : m ≤ 5) (hx : x = nI m) : NN (rup q 6 r x) L n := by
  obtain ⟨a1, a2, a3, a4, a5, a6, a7, a8, a9⟩ := H
  refine ⟨N1_f (fun k hk => funext fun i => by simp (disch := omega) only [rup_f]) a1, ⟨⟨a2.1.1, a2.1.2.1, a2.1.2.2.1, a2.1.2.2.2.1, a2.1.2.2.2.2.1, fun s hs => ?_, a2.1.2.2.2.2.2.2⟩, a2.2⟩, N3_f (q := q) (fun k hk => funext fun i => by simp (disch := omega) only [rup_f]) rfl a3, N4_f (fun k hk => funext fun i => by simp (disch := omega) only [rup_f]) a4, N5_f (fun k hk => funext fun i => by simp (disch := omega) only [rup_f]) a5, N6_f (fun k hk => funext fun i => by simp (disch := omega) only [rup_f]) a6, N7_f (fun k hk => funext fun i => by simp (disch := omega) only [rup_f]) a7, N8_f (fun k hk => funext fun i => by simp (disch := omega) only [rup_f]) a8, N9_f (fun k hk => funext fun i => by simp (disch := omega) only [rup_f]) a9⟩
  by_cases c : s = r
  · rw [c]; exact isN_of ((rup_at _ _ _ _).trans hx) hm (by omega)
  · exact isN_e (rup_y _ _ _ _ c) (a2.1.2.2.2.2.2.1 s hs)
theorem NN_15 {q : xrho} {L : xLs} {n p m : Nat} (H : NN q L n) (hp : p < 240) (hm : m = 0 ∨ m = 1) : NN (rup q 15 p (nI m)) L n := by
  have z := H.2.2.2.2.2.1 p hp
  refine NN_hd (p := p) H rfl (fun k i hk => ?_) ⟨isN_of (rup_at _ _ _ _) (by omega) (by omega), z.2.1, fun x _ => ?_⟩
  · rcases hk with hk | hk
    · simp (disch := omega) only [rup_f]
    · simp (disch := omega) only [rup_y]
  · rw [rup_at] at x
    rcases hm with e | e <;> subst e <;> exact absurd x (by decide)
theorem NN_done {q : xrho} {L : xLs} {n r : Nat} {e : Int32} (H : NN q L n) (hr : r < 40) (hl : nu q 82 0 + 1 < 1200) (c : ¬ q.1 7 r < 0) : NN (gowedL (gowedL (gdnq q r e) r 0 (nu q 82 0)) r 1 (nu q 82 0 + 1)) L n := by
  have h6 := H.2.1.1.2.2.2.2.2.1 r hr
  have h7 : isN q 7 r 5 := (H.2.1.2 r hr).1.resolve_left c
  have H1 : NN (gdnq q r e) L n := by
    unfold gdnq
    exact NN_rup (NN_7 (NN_rup (NN_6 (NN_rup (NN_rup (NN_10 (NN_10 H (Or.inl rfl) h6.2 h6.1) (Or.inr rfl) h7.2 h7.1) (by unfold rel; decide)) (by unfold rel; decide)) h7.2 h7.1) (by unfold rel; decide)) (Or.inl (by decide))) (by unfold rel; decide)
  have n82 : nu (gdnq q r e) 82 0 = nu q 82 0 := rfl
  have H2 := NN_gowL (r := r) (k := 0) H1 (by omega) hr (by decide)
  rw [n82] at H2
  have n83 : nu (gowedL (gdnq q r e) r 0 (nu q 82 0)) 82 0 = nu q 82 0 + 1 := nu_nl (gow_nl _ _ _ _) (by omega)
  have H3 := NN_gowL (r := r) (k := 1) H2 (by omega) hr (by decide)
  rw [n83] at H3
  exact H3
theorem NN_bk {q q1 : xrho} {L : xLs} {n k h r : Nat} {e : Int32} (H : NN q1 L n) (e82 : nu q1 82 0 = nu q 82 0) (hl : nu q 82 0 < 1200) (hh : h < 6) (hr : r < 40) (hk : k = 8 ∨ k = 10 ∨ k = 12 ∨ k = 14) : NN (gbk q1 k h r e) L n := by
  unfold gbk
  exact NN_new H (by omega) (by omega) ⟨0, by decide, rfl⟩ ⟨r, by omega, rfl⟩ (fun x => by omega)
theorem NN_goq {q : xrho} {L : xLs} {n h r : Nat} {e : Int32} {B : Int} (hn : n ≤ 600) (I : PIv q B) (H : NN q L n) (hh : h < 6) (hr : r < 40) (c : q.1 15 (40 * h + r) = nI 3) : NN (ggoq q h r (40 * h + r) e) L (n + 1) := by
  obtain ⟨lo, hi, z1, z2, z3, z4, z5⟩ := N_span H.2.1.1 hr I (Or.inr (Or.inr c))
  have H1 := NN_15 (m := 0) (p := 40 * h + r) H (by omega) (Or.inl rfl)
  have h21 := (H.2.2.2.2.2.1 (40 * h + r) (by omega)).2.1
  have b44 := H.1.2.2.2.2.1
  have b := b44.2
  have f : ∀ k i, k ≠ 38 → k ≠ 39 → k ≠ 40 → k ≠ 41 → k ≠ 42 → k ≠ 43 → k ≠ 44 → (ggoq q h r (40 * h + r) e).1 k i = (rup q 15 (40 * h + r) (nI 0)).1 k i := fun k i h1 h2 h3 h4 h5 h6 h7 => by
    unfold ggoq
    rw [rup_f _ _ _ _ h7, rup_f _ _ _ _ h6, rup_f _ _ _ _ h5, rup_f _ _ _ _ h4, rup_f _ _ _ _ h3, rup_f _ _ _ _ h2, rup_f _ _ _ _ h1]
  have o : ∀ k i, k ≠ 44 → k ≠ 15 → i ≠ nu q 44 0 → (ggoq q h r (40 * h + r) e).1 k i = q.1 k i := fun k i h1 h2 h3 => by
    unfold ggoq
    rw [rup_f _ _ _ _ h1, rup_y _ _ _ _ h3, rup_y _ _ _ _ h3, rup_y _ _ _ _ h3, rup_y _ _ _ _ h3, rup_y _ _ _ _ h3, rup_y _ _ _ _ h3, rup_f _ _ _ _ h2]
  have e44 : (ggoq q h r (40 * h + r) e).1 44 0 = nI (nu q 44 0 + 1) := by unfold ggoq; rw [rup_at]
  have e39 : (ggoq q h r (40 * h + r) e).1 39 (nu q 44 0) = nI r := by unfold ggoq; simp (disch := omega) only [rup_f, rup_at]
  have e40 : (ggoq q h r (40 * h + r) e).1 40 (nu q 44 0) = nI lo := by rw [← z1]; unfold ggoq; simp (disch := omega) only [rup_f, rup_at]
  have e41 : (ggoq q h r (40 * h + r) e).1 41 (nu q 44 0) = nI hi := by rw [← z2]; unfold ggoq; simp (disch := omega) only [rup_f, rup_at]
  have e43 : (ggoq q h r (40 * h + r) e).1 43 (nu q 44 0) = nI (nu q 21 (40 * h + r)) := by rw [← h21.1]; unfold ggoq; simp (disch := omega) only [rup_f, rup_at]
  have l2 : (ggoq q h r (40 * h + r) e).2 = (rup q 15 (40 * h + r) (nI 0)).2 := rfl
  have n44 : nu (rup q 15 (40 * h + r) (nI 0)) 44 0 = nu q 44 0 := rfl
  have o' : ∀ k i, k ≠ 44 → k ≠ 15 → i ≠ nu q 44 0 → (ggoq q h r (40 * h + r) e).1 k i = (rup q 15 (40 * h + r) (nI 0)).1 k i := fun k i h1 h2 h3 => by rw [o k i h1 h2 h3, rup_f _ _ _ _ h2]
  generalize ggoq q h r (40 * h + r) e = q' at *
  generalize rup q 15 (40 * h + r) (nI 0) = q1 at *
  have F : ∀ k, k ≠ 38 → k ≠ 39 → k ≠ 40 → k ≠ 41 → k ≠ 42 → k ≠ 43 → k ≠ 44 → q'.1 k = q1.1 k := fun k h1 h2 h3 h4 h5 h6 h7 => funext fun i => f k i h1 h2 h3 h4 h5 h6 h7
  obtain ⟨a1, a2, a3, a4, a5, a6, a7, a8, a9⟩ := H1
  have b21 := h21.2
  refine ⟨⟨isN_e (f 45 0 (by decide) (by decide) (by decide) (by decide) (by decide) (by decide) (by decide)) a1.1, fun c hc => isN_e (f 46 c (by decide) (by decide) (by decide) (by decide) (by decide) (by decide) (by decide)) (a1.2.1 c hc), isN_e (f 82 0 (by decide) (by decide) (by decide) (by decide) (by decide) (by decide) (by decide)) a1.2.2.1, isN_e (f 12 0 (by decide) (by decide) (by decide) (by decide) (by decide) (by decide) (by decide)) a1.2.2.2.1, isN_of e44 (by omega) (by omega), ?_⟩, N2_f (fun k hk => F k (by omega) (by omega) (by omega) (by omega) (by omega) (by omega) (by omega)) a2, N3_f (fun k hk => F k (by omega) (by omega) (by omega) (by omega) (by omega) (by omega) (by omega)) (by rw [l2]) a3, N4_f (fun k hk => F k (by omega) (by omega) (by omega) (by omega) (by omega) (by omega) (by omega)) a4, N5_f (fun k hk => F k (by omega) (by omega) (by omega) (by omega) (by omega) (by omega) (by omega)) a5, N6_f (fun k hk => F k (by omega) (by omega) (by omega) (by omega) (by omega) (by omega) (by omega)) a6, fun g hg => ?_, N8_f (fun k hk => F k (by omega) (by omega) (by omega) (by omega) (by omega) (by omega) (by omega)) a8, N9_f (fun k hk => F k (by omega) (by omega) (by omega) (by omega) (by omega) (by omega) (by omega)) a9⟩
  · have t : isN q' 88 0 n := isN_e (f 88 0 (by decide) (by decide) (by decide) (by decide) (by decide) (by decide) (by decide)) a1.2.2.2.2.2
    exact ⟨t.1, Nat.le_succ_of_le t.2⟩
  · rw [nu_of e44 (by omega)] at hg
    by_cases cg : g = nu q 44 0
    · subst cg
      refine ⟨isN_of e39 (by omega) (by omega), isN_of e43 b21 (by omega), isN_of e40 (by omega) (by omega), isN_of e41 (by omega) (by omega), ?_⟩
      rw [nu_of e40 (by omega), nu_of e41 (by omega)]
      exact z5
    · have t := a7 g (by omega)
      have w : ∀ k, k ≠ 44 → k ≠ 15 → q'.1 k g = q1.1 k g := fun k h1 h2 => o' k g h1 h2 cg
      refine ⟨isN_e (w 39 (by decide) (by decide)) t.1, isN_e (w 43 (by decide) (by decide)) t.2.1, isN_e (w 40 (by decide) (by decide)) t.2.2.1, isN_e (w 41 (by decide) (by decide)) t.2.2.2.1, ?_⟩
      rw [nu_e (w 40 (by decide) (by decide)), nu_e (w 41 (by decide) (by decide))]
      exact t.2.2.2.2
theorem NN_gmvd {q : xrho} {L : xLs} {n l k h r : Nat} {B : Int} (hn : n ≤ 600) (I : PIv q B) (H : NN q L n) (hl : nu q 82 0 < 1199) (hh : h < 6) (hr : r < 40) : NN (gmvd q k h r (q.1 64 l)) L (n + 1) := by
  have set1 : ∀ k, NN (gset1 q r k (q.1 64 l)) L (n + 1) := fun k => by
    unfold gset1
    split
    · exact NN_up (NN_rup H (by unfold rel; decide)) (Nat.le_succ _)
    · exact NN_up H (Nat.le_succ _)
  unfold gmvd
  split
  · split
    · exact NN_up H (Nat.le_succ _)
    · next c => exact NN_up (NN_done H hr (by omega) (fun x => c (Or.inr (Or.inl x)))) (Nat.le_succ _)
  · have Ho : NN (gopen q (40 * h + r) (q.1 64 l)) L n ∧ nu (gopen q (40 * h + r) (q.1 64 l)) 82 0 = nu q 82 0 := by
      unfold gopen
      split
      · exact ⟨NN_15 H (by omega) (Or.inr rfl), rfl⟩
      · exact ⟨H, rfl⟩
    split
    · exact NN_up (NN_bk (q := q) Ho.1 Ho.2 (by omega) hh hr (by decide)) (Nat.le_succ _)
    · exact NN_up Ho.1 (Nat.le_succ _)
  · split
    · next c => exact NN_bk (q := q) (NN_goq hn I H hh hr c.1) rfl (by omega) hh hr (by decide)
    · exact NN_up (NN_bk (q := q) H rfl (by omega) hh hr (by decide)) (Nat.le_succ _)
  · have Ho : NN (gund q (40 * h + r) (q.1 64 l)) L n ∧ nu (gund q (40 * h + r) (q.1 64 l)) 82 0 = nu q 82 0 := by
      unfold gund
      split
      · exact ⟨NN_rup (NN_15 H (by omega) (Or.inr rfl)) (by unfold rel; decide), rfl⟩
      · exact ⟨H, rfl⟩
    split
    · exact NN_up (NN_bk (q := q) Ho.1 Ho.2 (by omega) hh hr (by decide)) (Nat.le_succ _)
    · exact NN_up Ho.1 (Nat.le_succ _)
  · split
    · exact NN_up (NN_bk (q := q) (NN_15 H (by omega) (Or.inl rfl)) rfl (by omega) hh hr (by decide)) (Nat.le_succ _)
    · exact NN_up (NN_bk (q := q) H rfl (by omega) hh hr (by decide)) (Nat.le_succ _)
  · exact set1 0
  · exact set1 1
  · exact set1 2
  · exact set1 3
theorem D_1 {q : xrho} {L : xLs} {n l : Nat} {B : Int} (P : PIv q B ∧ NN q L n) (hn : n ≤ 600) (hB : 0 ≤ B ∧ B < 1800000000) (hl : l < nu q 82 0) (hl2 : nu q 82 0 < 1199) : PIv (adel1 q L l).1 (B + 2) ∧ NN (adel1 q L l).1 (adel1 q L l).2 (n + 1) := by
  have n12 := P.2.1.2.2.2.1.2
  obtain ⟨a1, a2, a3, a4, a5, a6, a7, a8, a9, a10⟩ := P.2.2.2.2.1 l hl
  have b61 := a2.2
  have r39 : nu q 60 l ≠ 1 → nu q 60 l ≠ 2 → nu q 63 l < 40 := fun x y => by have := (a3 x y).2; omega
  have e63 : nu q 60 l ≠ 1 → nu q 60 l ≠ 2 → q.1 63 l = nI (nu q 63 l) := fun x y => (a3 x y).1
  have e60 : ∀ k, nu q 60 l = k → q.1 60 l = nI k := fun k e => by rw [← e]; exact a1.1
  have I2 : PIv q (B + 2) := raise2 P.1 (by omega)
  have b60 := a1.2
  have pos : 3 ≤ nu q 60 l → 0 ≤ ti q 64 l ∧ (nu q 60 l = 4 → ¬ q.1 68 l < 0) := fun h3 => by
    have k : 3 ≤ ti q 60 l := by rw [ti_k a1.1 (by omega)]; omega
    have hr := rg_lt P.1 hl (e63 (by omega) (by omega)) (r39 (by omega) (by omega)) k
    have hS : pS q (nu q 63 l) (msg q l) := ⟨l, hl, e63 (by omega) (by omega), rfl⟩
    refine ⟨(Pin_q3 (P.1.1 _ hr) _ hS k).1, fun e hc => ?_⟩
    have z : 0 ≤ ti q 68 l := (Pin_f (P.1.1 _ hr) _ hS k).2 (show ti q 60 l = 4 by rw [ti_k a1.1 (by omega), e]; rfl)
    have := ti_lt0.mp hc
    unfold ti at z
    omega
  unfold adel1
  split
  · next k => exact ⟨raise2 (D_acall P hn hl hl2 k (by omega) (r39 (by omega) (by omega))).1 (by omega), (D_acall P hn hl hl2 k (by omega) (r39 (by omega) (by omega))).2⟩
  · next k => exact ⟨raise2 (D_heard P hl k).1 (by omega), NN_up (D_heard P hl k).2 (Nat.le_succ _)⟩
  · next k => exact ⟨raise2 (D_gold P hl k).1 (by omega), NN_up (D_gold P hl k).2 (Nat.le_succ _)⟩
  · next k =>
    have := r39 (by omega) (by omega)
    exact ⟨V_beg P.1 n12 hl (e63 (by omega) (by omega)) this (e60 _ k), NN_up (NN_beg P.2 hl k (by omega)) (Nat.le_succ _)⟩
  · next k =>
    have := r39 (by omega) (by omega)
    exact ⟨V_parted P.1 n12 ⟨by omega, by omega⟩ (by omega) hl (e63 (by omega) (by omega)) this (e60 _ k) a2.1 (by omega), NN_up (NN_parted P.2 (by omega) hl k ((pos (by omega)).2 k) (by omega) this) (Nat.le_succ _)⟩
  · next k =>
    have := r39 (by omega) (by omega)
    exact ⟨V_atook P.1 n12 ⟨by omega, by omega⟩ (by omega) hl (e63 (by omega) (by omega)) this (e60 _ k), NN_up (NN_took P.2 (by omega) (by omega) this) (Nat.le_succ _)⟩
  · next k0 k1 k2 k3 k4 k5 =>
    have k0 : nu q 60 l ≠ 0 := k0
    have k1 : nu q 60 l ≠ 1 := k1
    have k2 : nu q 60 l ≠ 2 := k2
    have k3 : nu q 60 l ≠ 3 := k3
    have k4 : nu q 60 l ≠ 4 := k4
    have k5 : nu q 60 l ≠ 5 := k5
    have hr := r39 k1 k2
    have h63 := e63 k1 k2
    refine ⟨?_, NN_gmvd hn P.1 P.2 hl2 (by omega) hr⟩
    have cs : nu q 60 l = 6 ∨ nu q 60 l = 7 ∨ nu q 60 l = 8 ∨ nu q 60 l = 9 ∨ nu q 60 l = 10 ∨ nu q 60 l = 11 ∨ nu q 60 l = 12 ∨ nu q 60 l = 13 ∨ nu q 60 l = 14 := by omega
    show PIv (gmvd q (nu q 60 l) (nu q 61 l) (nu q 63 l) (q.1 64 l)) (B + 2)
    rcases cs with e | e | e | e | e | e | e | e | e <;> rw [e]
    · show PIv (if q.1 2 (nu q 63 l) = 0 ∨ q.1 7 (nu q 63 l) < 0 ∨ q.1 8 (nu q 63 l) ≠ q.1 64 l then q else _) (B + 2)
      split
      · exact I2
      · next c => exact V_done P.1 n12 (by omega) hl h63 hr (e60 _ e) (P.2.2.1.1.2.2.2.2.2.1 _ hr) c
    · exact V_l7 P.1 n12 ⟨by omega, by omega⟩ (by omega) hl h63 hr (e60 _ e) a2.1 (by omega)
    · exact V_set1 (j := 0) P.1 n12 hl h63 hr (by decide) (e60 _ e)
    · exact V_l9 P.1 n12 ⟨by omega, by omega⟩ (by omega) hl h63 hr (e60 _ e) a2.1 (by omega)
    · exact V_set1 (j := 1) P.1 n12 hl h63 hr (by decide) (e60 _ e)
    · exact V_l11 P.1 n12 ⟨by omega, by omega⟩ (by omega) hl h63 hr (e60 _ e) a2.1 (by omega)
    · exact V_set1 (j := 2) P.1 n12 hl h63 hr (by decide) (e60 _ e)
    · exact V_l13 P.1 n12 ⟨by omega, by omega⟩ (by omega) hl h63 hr (e60 _ e) (by omega)
    · exact V_set1 (j := 3) P.1 n12 hl h63 hr (by decide) (e60 _ e)
theorem S_deliver {q : xrho} {L : xLs} {n : Nat} {B : Int} {x : Int32} (P : PIv q B ∧ NN q L n) (hn : n ≤ 600) (hB : 0 ≤ B ∧ B < 1800000000) : PIv (adel q L x).2.1 (B + 100) ∧ NN (adel q L x).2.1 (adel q L x).2.2 (n + 1) := by
  have n12 := P.2.1.2.2.2.1.2
  have rf : ∀ k, PIv (gref q k) (B + 100) ∧ NN (gref q k) L (n + 1) := fun k => ⟨raise2 (V_ref P.1 n12) (by omega), NN_up (NN_ref P.2) (Nat.le_succ _)⟩
  unfold adel
  split
  · exact rf 1
  · next l e1 =>
    have hl := ix_lt (by have := P.2.1.2.2.1.2; omega) e1
    split
    · split
      · next c =>
        have P1 : PIv (rup q 65 l (q.1 65 l + nI 1)) B ∧ NN (rup q 65 l (q.1 65 l + nI 1)) L n := ⟨V_rup P.1 n12 (by decide), NN_65 P.2 hl⟩
        split
        · have := D_1 (l := l) P1 hn hB hl c
          exact ⟨raise2 this.1 (by omega), this.2⟩
        · exact ⟨raise2 P1.1 (by omega), NN_up P1.2 (Nat.le_succ _)⟩
      · exact rf 6
    · exact rf 5
