/-! the invariant is kept: what each chunk reads -/
theorem N1_f {q q' : xrho} {n : Nat} (h : ∀ k, k = 45 ∨ k = 46 ∨ k = 82 ∨ k = 12 ∨ k = 44 ∨ k = 88 → q'.1 k = q.1 k) (H : N1 q n) : N1 q' n := by
  have e45 := h 45 (by decide)
  have e46 := h 46 (by decide)
  have e82 := h 82 (by decide)
  have e12 := h 12 (by decide)
  have e44 := h 44 (by decide)
  have e88 := h 88 (by decide)
  simp only [N1, isN, nu] at H ⊢
  simp only [e45, e46, e82, e12, e44, e88]
  exact H
theorem N2_f {q q' : xrho}  (h : ∀ k, k = 2 ∨ k = 3 ∨ k = 4 ∨ k = 6 ∨ k = 7 ∨ k = 10 ∨ k = 11 ∨ k = 12 → q'.1 k = q.1 k) (H : N2 q ) : N2 q'  := by
  have e2 := h 2 (by decide)
  have e3 := h 3 (by decide)
  have e4 := h 4 (by decide)
  have e6 := h 6 (by decide)
  have e7 := h 7 (by decide)
  have e10 := h 10 (by decide)
  have e11 := h 11 (by decide)
  have e12 := h 12 (by decide)
  simp only [N2, bkOK, okSp, isN, nu] at H ⊢
  simp only [e2, e3, e4, e6, e7, e10, e11, e12]
  exact H
theorem N4_f {q q' : xrho}  (h : ∀ k, k = 45 ∨ k = 46 ∨ k = 48 ∨ k = 60 ∨ k = 61 ∨ k = 62 ∨ k = 63 ∨ k = 66 ∨ k = 68 ∨ k = 69 ∨ k = 70 ∨ k = 71 ∨ k = 72 ∨ k = 74 ∨ k = 82 → q'.1 k = q.1 k) (H : N4 q ) : N4 q'  := by
  have e45 := h 45 (by decide)
  have e46 := h 46 (by decide)
  have e48 := h 48 (by decide)
  have e60 := h 60 (by decide)
  have e61 := h 61 (by decide)
  have e62 := h 62 (by decide)
  have e63 := h 63 (by decide)
  have e66 := h 66 (by decide)
  have e68 := h 68 (by decide)
  have e69 := h 69 (by decide)
  have e70 := h 70 (by decide)
  have e71 := h 71 (by decide)
  have e72 := h 72 (by decide)
  have e74 := h 74 (by decide)
  have e82 := h 82 (by decide)
  simp only [N4, ltr, lt0, lt1, lt2, lt4, AKey, isN, nu] at H ⊢
  simp only [e45, e46, e48, e60, e61, e62, e63, e66, e68, e69, e70, e71, e72, e74, e82]
  exact H
theorem N5_f {q q' : xrho}  (h : ∀ k, k = 65 ∨ k = 75 ∨ k = 76 ∨ k = 82 → q'.1 k = q.1 k) (H : N5 q ) : N5 q'  := by
  have e65 := h 65 (by decide)
  have e75 := h 75 (by decide)
  have e76 := h 76 (by decide)
  have e82 := h 82 (by decide)
  simp only [N5, frL, nu] at H ⊢
  simp only [e65, e75, e76, e82]
  exact H
theorem N6_f {q q' : xrho}  (h : ∀ k, k = 15 ∨ k = 16 ∨ k = 17 ∨ k = 21 ∨ k = 28 ∨ k = 29 ∨ k = 32 ∨ k = 60 ∨ k = 69 ∨ k = 70 ∨ k = 71 ∨ k = 82 → q'.1 k = q.1 k) (H : N6 q ) : N6 q'  := by
  have e15 := h 15 (by decide)
  have e16 := h 16 (by decide)
  have e17 := h 17 (by decide)
  have e21 := h 21 (by decide)
  have e28 := h 28 (by decide)
  have e29 := h 29 (by decide)
  have e32 := h 32 (by decide)
  have e60 := h 60 (by decide)
  have e69 := h 69 (by decide)
  have e70 := h 70 (by decide)
  have e71 := h 71 (by decide)
  have e82 := h 82 (by decide)
  simp only [N6, hd6, isN, nu] at H ⊢
  simp only [e15, e16, e17, e21, e28, e29, e32, e60, e69, e70, e71, e82]
  exact H
theorem N7_f {q q' : xrho}  (h : ∀ k, k = 39 ∨ k = 40 ∨ k = 41 ∨ k = 43 ∨ k = 44 → q'.1 k = q.1 k) (H : N7 q ) : N7 q'  := by
  have e39 := h 39 (by decide)
  have e40 := h 40 (by decide)
  have e41 := h 41 (by decide)
  have e43 := h 43 (by decide)
  have e44 := h 44 (by decide)
  simp only [N7, gv7, isN, nu] at H ⊢
  simp only [e39, e40, e41, e43, e44]
  exact H
theorem N8_f {q q' : xrho}  (h : ∀ k, k = 55 ∨ k = 57 → q'.1 k = q.1 k) (H : N8 q ) : N8 q'  := by
  have e55 := h 55 (by decide)
  have e57 := h 57 (by decide)
  simp only [N8, isN, nu] at H ⊢
  simp only [e55, e57]
  exact H
theorem N9_f {q q' : xrho} {L : xLs} (h : ∀ k, k = 46 ∨ k = 48 → q'.1 k = q.1 k) (H : N9 q L) : N9 q' L := by
  have e46 := h 46 (by decide)
  have e48 := h 48 (by decide)
  simp only [N9, AKey, nu] at H ⊢
  simp only [e46, e48]
  exact H
theorem N3_f {q q' : xrho} (h : ∀ k, k = 45 ∨ k = 46 ∨ k = 47 ∨ k = 48 ∨ k = 49 ∨ k = 50 ∨ k = 54 → q'.1 k = q.1 k) (h2 : q'.2 53 = q.2 53) (H : N3 q) : N3 q' := by
  have e45 := h 45 (by decide)
  have e46 := h 46 (by decide)
  have e47 := h 47 (by decide)
  have e48 := h 48 (by decide)
  have e49 := h 49 (by decide)
  have e50 := h 50 (by decide)
  have e54 := h 54 (by decide)
  simp only [N3, frA, isN, nu] at H ⊢
  simp only [h2, e45, e46, e47, e48, e49, e50, e54]
  exact H
def rel (k : Nat) : Prop := k = 2 ∨ k = 3 ∨ k = 4 ∨ k = 6 ∨ k = 7 ∨ k = 10 ∨ k = 11 ∨ k = 12 ∨ k = 15 ∨ k = 16 ∨ k = 17 ∨ k = 21 ∨ k = 28 ∨ k = 29 ∨ k = 32 ∨ k = 39 ∨ k = 40 ∨ k = 41 ∨ k = 43 ∨ k = 44 ∨ k = 45 ∨ k = 46 ∨ k = 47 ∨ k = 48 ∨ k = 49 ∨ k = 50 ∨ k = 54 ∨ k = 55 ∨ k = 57 ∨ k = 60 ∨ k = 61 ∨ k = 62 ∨ k = 63 ∨ k = 65 ∨ k = 66 ∨ k = 68 ∨ k = 69 ∨ k = 70 ∨ k = 71 ∨ k = 72 ∨ k = 74 ∨ k = 75 ∨ k = 76 ∨ k = 82 ∨ k = 88
theorem NN_f {q q' : xrho} {L : xLs} {n : Nat} (h : ∀ k, rel k → q'.1 k = q.1 k) (h2 : q'.2 53 = q.2 53) (H : NN q L n) : NN q' L n := by
  obtain ⟨a1, a2, a3, a4, a5, a6, a7, a8, a9⟩ := H
  unfold rel at h
  exact ⟨N1_f (fun k hk => h k (by omega)) a1, N2_f (fun k hk => h k (by omega)) a2, N3_f (fun k hk => h k (by omega)) h2 a3, N4_f (fun k hk => h k (by omega)) a4, N5_f (fun k hk => h k (by omega)) a5, N6_f (fun k hk => h k (by omega)) a6, N7_f (fun k hk => h k (by omega)) a7, N8_f (fun k hk => h k (by omega)) a8, N9_f (fun k hk => h k (by omega)) a9⟩
theorem NN_rup {q : xrho} {L : xLs} {n k i : Nat} {x : Int32} (H : NN q L n) (hk : ¬ rel k) : NN (rup q k i x) L n := NN_f (fun j hj => funext fun m => rup_f _ _ _ _ (fun e => hk (by rw [← e]; exact hj))) rfl H
theorem NN_rupL {q : xrho} {L : xLs} {n k i : Nat} {x : Int64} (H : NN q L n) (hk : k ≠ 53) : NN (rupL q k i x) L n := NN_f (q := q) (q' := rupL q k i x) (fun j hj => rfl) (rupL_ne _ _ _ _ (Ne.symm hk)) H
theorem NN_ref {q : xrho} {L : xLs} {n k : Nat} (H : NN q L n) : NN (gref q k) L n := NN_rup H (by unfold rel; decide)
theorem NN_up {q : xrho} {L : xLs} {n m : Nat} (H : NN q L n) (h : n ≤ m) : NN q L m := ⟨⟨H.1.1, H.1.2.1, H.1.2.2.1, H.1.2.2.2.1, ⟨H.1.2.2.2.2.1.1, by have := H.1.2.2.2.2.1.2; omega⟩, ⟨H.1.2.2.2.2.2.1, by have := H.1.2.2.2.2.2.2; omega⟩⟩, H.2⟩
theorem NN_rise {q : xrho} {L : xLs} {n : Nat} {x : Int32} (H : NN q L n) : NN (grise q x).2 L n := by
  unfold grise
  split
  · exact NN_ref H
  · split
    · exact NN_rup H (by unfold rel; decide)
    · exact NN_ref H
theorem ix_lt {x : Int32} {n i : Nat} (hn : n < 2 ^ 31) (h : ix x n = some i) : i < n := (ix_some hn h).1
theorem NN_lose {q : xrho} {L : xLs} {n : Nat} {x : Int32} (H : NN q L n) : NN (glose q (nu q 82 0) x).2 L n := by
  unfold glose
  split
  · exact NN_ref H
  · next l e =>
    have hl := ix_lt (by have := H.1.2.2.1.2; omega) e
    split
    · obtain ⟨a1, a2, a3, a4, a5, a6, a7, a8, a9⟩ := H
      refine ⟨N1_f (fun k hk => funext fun i => by simp (disch := omega) only [rup_f]) a1, N2_f (fun k hk => funext fun i => by simp (disch := omega) only [rup_f]) a2, N3_f (fun k hk => funext fun i => by simp (disch := omega) only [rup_f]) rfl a3, N4_f (fun k hk => funext fun i => by simp (disch := omega) only [rup_f]) a4, ⟨fun i h1 h2 => ?_, a5.2⟩, N6_f (fun k hk => funext fun i => by simp (disch := omega) only [rup_f]) a6, N7_f (fun k hk => funext fun i => by simp (disch := omega) only [rup_f]) a7, N8_f (fun k hk => funext fun i => by simp (disch := omega) only [rup_f]) a8, N9_f (fun k hk => funext fun i => by simp (disch := omega) only [rup_f]) a9⟩
      have e82 : nu (rup q 75 l (Int32.ofInt 1)) 82 0 = nu q 82 0 := nu_e (by simp (disch := omega) only [rup_f])
      rw [e82] at h1
      have := a5.1 i h1 h2
      simp (disch := omega) only [rup_f, rup_y]
      exact this
    · exact NN_ref H
/-! the maps that callers have -/
theorem NN_cps {q : xrho} {L : xLs} {n a z : Nat} {r e h lo hi : Int32} (H : NN q L n) (hr : ∃ m, m ≤ 39 ∧ r = nI m) (hh : ∃ m, m ≤ 5 ∧ h = nI m) : NN (cps q a z r e h lo hi) L n := by
  obtain ⟨a1, a2, a3, a4, a5, a6, a7, a8, a9⟩ := H
  have fr : ∀ k, ¬ (55 ≤ k ∧ k ≤ 59) → (cps q a z r e h lo hi).1 k = q.1 k := fun k hk => by
    unfold cps
    simp (disch := omega) only [va_up_ne]
  refine ⟨N1_f (fun k hk => fr k (by omega)) a1, N2_f (fun k hk => fr k (by omega)) a2, N3_f (fun k hk => fr k (by omega)) rfl a3, N4_f (fun k hk => fr k (by omega)) a4, N5_f (fun k hk => fr k (by omega)) a5, N6_f (fun k hk => fr k (by omega)) a6, N7_f (fun k hk => fr k (by omega)) a7, fun c k hc hk => ?_, N9_f (fun k hk => fr k (by omega)) a9⟩
  obtain ⟨x, hx, ex⟩ := hr
  obtain ⟨y, hy, ey⟩ := hh
  have e55 : (cps q a z r e h lo hi).1 55 = filK (q.1 55) a z r := by unfold cps; simp (disch := omega) only [va_up_ne, va_up_self]
  have e57 : (cps q a z r e h lo hi).1 57 = filK (q.1 57) a z h := by unfold cps; simp (disch := omega) only [va_up_ne, va_up_self]
  have old := a8 c k hc hk
  constructor
  · by_cases c' : a ≤ 10000 * c + k ∧ 10000 * c + k < z
    · exact isN_of (n := x) (by rw [e55]; unfold filK; rw [if_pos c', ex]) hx (by omega)
    · exact isN_e (by rw [e55]; unfold filK; rw [if_neg c']) old.1
  · by_cases c' : a ≤ 10000 * c + k ∧ 10000 * c + k < z
    · exact isN_of (n := y) (by rw [e57]; unfold filK; rw [if_pos c', ey]) hy (by omega)
    · exact isN_e (by rw [e57]; unfold filK; rw [if_neg c']) old.2
theorem NN_lrn (c : Nat) {L : xLs} {n : Nat} : ∀ (m r : Nat) (q : xrho), r + m ≤ 40 → NN q L n → NN (glearn c r m q) L n
  | 0, _, _, _, H => H
  | m + 1, r, q, hr, H => by
    unfold glearn
    refine NN_lrn c m (r + 1) _ (by omega) ?_
    split
    · exact H
    · have := H.2.1.1.2.2.2.2.2.1 r (by omega)
      exact NN_cps H ⟨r, by omega, rfl⟩ ⟨nu q 6 r, this.2, this.1⟩
theorem NN_learn {q : xrho} {L : xLs} {n : Nat} {x : Int32} (H : NN q L n) : NN (glearnP q x).2 L n := by
  unfold glearnP
  split
  · exact NN_ref H
  · split
    · exact NN_ref H
    · exact NN_lrn _ _ _ _ (by have := H.1.2.2.2.1.2; omega) H
/-! a new caller -/
theorem ltr_up {q q' : xrho} {l : Nat} (h : ∀ k, 60 ≤ k → k ≤ 72 → k ≠ 65 → q'.1 k l = q.1 k l) (h74 : ∀ j, j < 3 → q'.1 74 (3 * l + j) = q.1 74 (3 * l + j)) (h45 : nu q 45 0 ≤ nu q' 45 0) (h46 : ∀ c, nu q 46 c ≤ nu q' 46 c) (hA : ∀ key, AKey q key → AKey q' key) (H : ltr q l) : ltr q' l := by
  have nn : ∀ k, 60 ≤ k → k ≤ 72 → k ≠ 65 → nu q' k l = nu q k l := fun k a b c => nu_e (h k a b c)
  have ii : ∀ k b, 60 ≤ k → k ≤ 72 → k ≠ 65 → isN q k l b → isN q' k l b := fun k b x y w z => isN_e (h k x y w) z
  obtain ⟨a1, a2, a3, a4, a5, a6, a7, a8, a9, a10⟩ := H
  unfold ltr
  rw [nn 60 (by decide) (by decide) (by decide), h 68 (by decide) (by decide) (by decide), h 62 (by decide) (by decide) (by decide)]
  refine ⟨ii 60 _ (by decide) (by decide) (by decide) a1, ii 61 _ (by decide) (by decide) (by decide) a2, fun e f => ii 63 _ (by decide) (by decide) (by decide) (a3 e f), fun e => ?_, fun e => ?_, fun e => ?_, fun e => ii 72 _ (by decide) (by decide) (by decide) (a7 e), fun e => ?_, a9, a10⟩
  · obtain ⟨b1, b2, b3, b4⟩ := a4 e
    unfold lt0
    rw [nn 62 (by decide) (by decide) (by decide), nn 66 (by decide) (by decide) (by decide)]
    have := h46 (nu q 62 l)
    exact ⟨ii 62 _ (by decide) (by decide) (by decide) b1, by omega, ii 66 _ (by decide) (by decide) (by decide) b3, by omega⟩
  · obtain ⟨b2, b3, b4⟩ := a5 e
    unfold lt1
    rw [nn 61 (by decide) (by decide) (by decide), nn 66 (by decide) (by decide) (by decide)]
    have := h46 (nu q 61 l)
    exact ⟨by omega, ii 66 _ (by decide) (by decide) (by decide) b3, by omega⟩
  · obtain ⟨b1, b2⟩ := a6 e
    unfold lt2
    rw [nn 61 (by decide) (by decide) (by decide), nn 70 (by decide) (by decide) (by decide), nn 71 (by decide) (by decide) (by decide), h 63 (by decide) (by decide) (by decide)]
    refine ⟨by omega, fun f => ?_⟩
    obtain ⟨c1, c2, c3, c4, c5⟩ := b2 f
    exact ⟨ii 63 _ (by decide) (by decide) (by decide) c1, ii 72 _ (by decide) (by decide) (by decide) c2, ii 70 _ (by decide) (by decide) (by decide) c3, ii 71 _ (by decide) (by decide) (by decide) c4, c5⟩
  · obtain ⟨b1, b2, b3⟩ := a8 e
    unfold lt4
    rw [h 69 (by decide) (by decide) (by decide), nn 69 (by decide) (by decide) (by decide)]
    refine ⟨b1.imp id (ii 69 _ (by decide) (by decide) (by decide)), ii 62 _ (by decide) (by decide) (by decide) b2, fun j hj => ?_⟩
    have h3 : nu q 69 l ≤ 3 := b1.elim (fun e => by rw [nu_m1 e]; omega) (fun e => e.2)
    rw [h74 j (by omega)]
    exact hA _ (b3 j hj)
theorem N4_up {q q' : xrho} (h : ∀ k, 60 ≤ k → k ≤ 82 → k ≠ 65 → q'.1 k = q.1 k) (h45 : nu q 45 0 ≤ nu q' 45 0) (h46 : ∀ c, nu q 46 c ≤ nu q' 46 c) (hA : ∀ key, AKey q key → AKey q' key) (H : N4 q) : N4 q' := fun l hl => by
  have n82 : nu q' 82 0 = nu q 82 0 := nu_e (by rw [h 82 (by decide) (by decide) (by decide)])
  rw [n82] at hl
  exact ltr_up (fun k a b c => by rw [h k a (by omega) c]) (fun j _ => by rw [h 74 (by decide) (by decide) (by decide)]) h45 h46 hA (H l hl)
theorem NN_caller {q : xrho} {L : xLs} {n : Nat} (H : NN q L n) : NN (gcaller q (nu q 45 0) (nu q 12 0)).2 L n := by
  unfold gcaller
  split
  · exact NN_ref H
  · split
    · exact NN_ref H
    · next c6 =>
      refine NN_lrn _ _ _ _ (by have := H.1.2.2.2.1.2; omega) ?_
      obtain ⟨a1, a2, a3, a4, a5, a6, a7, a8, a9⟩ := H
      have hc := a1.1.2
      have n45 : nu (rup q 45 0 (nI (nu q 45 0 + 1))) 45 0 = nu q 45 0 + 1 := nu_of (rup_at _ _ _ _) (by omega)
      refine ⟨⟨isN_of (rup_at _ _ _ _) (by omega) (by omega), a1.2⟩, N2_f (fun k hk => funext fun i => by simp (disch := omega) only [rup_f]) a2, ⟨a3.1, a3.2.1, fun c x y => a3.2.2 c (by rw [n45] at x; omega) y⟩, N4_up (q := q) (q' := rup q 45 0 (nI (nu q 45 0 + 1))) (fun k a b _ => by funext i; simp (disch := omega) only [rup_f]) (by omega) (fun c => Nat.le_refl _) (fun _ h => h) a4, N5_f (fun k hk => funext fun i => by simp (disch := omega) only [rup_f]) a5, N6_f (fun k hk => funext fun i => by simp (disch := omega) only [rup_f]) a6, N7_f (fun k hk => funext fun i => by simp (disch := omega) only [rup_f]) a7, N8_f (fun k hk => funext fun i => by simp (disch := omega) only [rup_f]) a8, N9_f (fun k hk => funext fun i => by simp (disch := omega) only [rup_f]) a9⟩
