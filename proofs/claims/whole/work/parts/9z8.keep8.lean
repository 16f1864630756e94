/-! the invariant is kept: deliver, by kind -/
theorem NN_65 {q : xrho} {L : xLs} {n l : Nat} {x : Int32} (H : NN q L n) (hl : l < nu q 82 0) : NN (rup q 65 l x) L n := by
  obtain ⟨a1, a2, a3, a4, a5, a6, a7, a8, a9⟩ := H
  refine ⟨N1_f (fun k hk => funext fun i => by simp (disch := omega) only [rup_f]) a1, N2_f (fun k hk => funext fun i => by simp (disch := omega) only [rup_f]) a2, N3_f (q := q) (fun k hk => funext fun i => by simp (disch := omega) only [rup_f]) rfl a3, N4_f (fun k hk => funext fun i => by simp (disch := omega) only [rup_f]) a4, ⟨fun i h1 h2 => ?_, a5.2⟩, N6_f (fun k hk => funext fun i => by simp (disch := omega) only [rup_f]) a6, N7_f (fun k hk => funext fun i => by simp (disch := omega) only [rup_f]) a7, N8_f (fun k hk => funext fun i => by simp (disch := omega) only [rup_f]) a8, N9_f (fun k hk => funext fun i => by simp (disch := omega) only [rup_f]) a9⟩
  have e82 : nu (rup q 65 l x) 82 0 = nu q 82 0 := nu_e (by simp (disch := omega) only [rup_f])
  rw [e82] at h1
  have := a5.1 i h1 h2
  simp (disch := omega) only [rup_f, rup_y]
  exact this
theorem NN_88 {q : xrho} {L : xLs} {n : Nat} (hn : n ≤ 600) (H : NN q L n) : NN (rup q 88 0 (nI (nu q 88 0 + 1))) L (n + 1) := by
  obtain ⟨a1, a2, a3, a4, a5, a6, a7, a8, a9⟩ := H
  have b44 := a1.2.2.2.2.1
  have b88 := a1.2.2.2.2.2.2
  exact ⟨⟨a1.1, a1.2.1, a1.2.2.1, a1.2.2.2.1, ⟨b44.1, Nat.le_succ_of_le b44.2⟩, isN_of (rup_at _ _ _ _) (by omega) (by omega)⟩, N2_f (fun k hk => funext fun i => by simp (disch := omega) only [rup_f]) a2, N3_f (q := q) (fun k hk => funext fun i => by simp (disch := omega) only [rup_f]) rfl a3, N4_f (fun k hk => funext fun i => by simp (disch := omega) only [rup_f]) a4, N5_f (fun k hk => funext fun i => by simp (disch := omega) only [rup_f]) a5, N6_f (fun k hk => funext fun i => by simp (disch := omega) only [rup_f]) a6, N7_f (fun k hk => funext fun i => by simp (disch := omega) only [rup_f]) a7, N8_f (fun k hk => funext fun i => by simp (disch := omega) only [rup_f]) a8, N9_f (fun k hk => funext fun i => by simp (disch := omega) only [rup_f]) a9⟩
theorem PIv_e {q q' : xrho} {B : Int} (e : q'.1 = q.1) (n12 : nu q 12 0 ≤ 40) (I : PIv q B) : PIv q' B := PIv_0 I (by rw [e]) (fun s hs => ⟨fun _ _ _ _ => by rw [e], fun _ _ => by rw [e], fun _ _ _ => by rw [e]⟩) ⟨fun _ _ _ _ _ _ => by rw [e], by rw [e]⟩ n12
theorem gk_nl (q : xrho) (l h : Nat) (c j : Int32) (o1 o2 : Option Nat) : nlq q l (gknow q l h c j o1 o2) ∧ (gknow q l h c j o1 o2).1 60 l = nI 2 := by
  cases o1 with
  | some r => exact ⟨nlq_up (nlq_up (nlq_up (nlq_up (nlq_new _ _ _ _ _ _ _) (by decide)) (by decide)) (by decide)) (by decide), by
      unfold gknow
      rw [rup_f _ _ _ _ (by decide), rup_f _ _ _ _ (by decide), rup_f _ _ _ _ (by decide), rup_f _ _ _ _ (by decide)]
      exact (gnew_at _ _ _ _ _ _ _).1⟩
  | none =>
    cases o2 with
    | some g => exact ⟨nlq_up (nlq_up (nlq_up (nlq_up (nlq_new _ _ _ _ _ _ _) (by decide)) (by decide)) (by decide)) (by decide), by
        unfold gknow
        rw [rup_f _ _ _ _ (by decide), rup_f _ _ _ _ (by decide), rup_f _ _ _ _ (by decide), rup_f _ _ _ _ (by decide)]
        exact (gnew_at _ _ _ _ _ _ _).1⟩
    | none => exact ⟨nlq_up (nlq_new _ _ _ _ _ _ _) (by decide), by
        unfold gknow
        rw [rup_f _ _ _ _ (by decide)]
        exact (gnew_at _ _ _ _ _ _ _).1⟩
theorem D_acall {q : xrho} {L : xLs} {n l h r : Nat} {B : Int} (P : PIv q B ∧ NN q L n) (hn : n ≤ 600) (hl : l < nu q 82 0) (hl2 : nu q 82 0 < 1199) (k0 : nu q 60 l = 0) (hh : h < 6) (hr : r < 40) : PIv (acall q L l h r).1 B ∧ NN (acall q L l h r).1 (acall q L l h r).2 (n + 1) := by
  obtain ⟨I, H⟩ := P
  have n12 := H.1.2.2.2.1.2
  obtain ⟨b1, b2, b3, b4⟩ := (H.2.2.2.1 l hl).2.2.2.1 k0
  have c6 := H.1.1.2
  have nla : ∀ (q : xrho) (h c j : Int32) (v : Int64) (sg : Int32), nlq q (nu q 82 0) (gansw q (nu q 82 0) h c j v sg) := fun q h c j v sg => nlq_up (nlq_upL (j := 0) (nlq_up (nlq_new _ _ _ _ _ _ _) (by decide))) (by decide)
  have kia : ∀ (q : xrho) (h c j : Int32) (v : Int64) (sg : Int32), ti (gansw q (nu q 82 0) h c j v sg) 60 (nu q 82 0) < 3 := fun q h c j v sg => by
    have : (gansw q (nu q 82 0) h c j v sg).1 60 (nu q 82 0) = nI 1 := by
      unfold gansw
      rw [rup_f _ _ _ _ (by decide), rupL_1, rup_f _ _ _ _ (by decide)]
      exact (gnew_at _ _ _ _ _ _ _).1
    rw [ti_k this (by decide)]
    decide
  unfold acall
  dsimp only
  split
  · split
    · exact ⟨V_cl I n12 (by omega) (nla _ _ _ _ _ _) (kia _ _ _ _ _ _), NN_up (D_ans H (by omega) b2 b4) (Nat.le_succ _)⟩
    · split
      · exact ⟨I, NN_up H (Nat.le_succ _)⟩
      · have AKy : AKey q (q.1 48 (60 * nu q 62 l + nu q 66 l)) := ⟨nu q 62 l, nu q 66 l, by omega, b4, rfl⟩
        have hd : ∀ x ∈ (doA (L.1 (40 * h + r)) (nu q 47 (60 * nu q 62 l + nu q 66 l)) (q.1 48 (60 * nu q 62 l + nu q 66 l)) (q.2 51 (60 * nu q 62 l + nu q 66 l)) (q.2 52 (60 * nu q 62 l + nu q 66 l))).1, AKey q x.1 := doA_P (NN_9 H _ (by omega)).1 AKy
        generalize doA (L.1 (40 * h + r)) (nu q 47 (60 * nu q 62 l + nu q 66 l)) (q.1 48 (60 * nu q 62 l + nu q 66 l)) (q.2 51 (60 * nu q 62 l + nu q 66 l)) (q.2 52 (60 * nu q 62 l + nu q 66 l)) = d at *
        have nr : ∀ k, (83 ≤ k ∧ k ≤ 87) ∨ k = 90 → ¬ rel k := fun k hk => by unfold rel; omega
        have H5 : NN (rup (rup (rup (rup (rup (rup (rupL q 89 0 d.2.1) 90 0 d.2.2.1) 83 (nu q 88 0) (nI (nu q 62 l))) 84 (nu q 88 0) (nI (nu q 66 l))) 85 (nu q 88 0) (nI h)) 86 (nu q 88 0) (nI r)) 87 (nu q 88 0) (q.1 18 (40 * h + r))) L n := NN_rup (NN_rup (NN_rup (NN_rup (NN_rup (NN_rup (NN_rupL H (by decide)) (nr _ (by decide))) (nr _ (by decide))) (nr _ (by decide))) (nr _ (by decide))) (nr _ (by decide))) (nr _ (by decide))
        have H6 : NN (gdone (rup (rupL q 89 0 d.2.1) 90 0 d.2.2.1) (nu q 88 0) (nI (nu q 62 l)) (nI (nu q 66 l)) (nI h) (nI r) (q.1 18 (40 * h + r))) L (n + 1) := NN_88 hn H5
        have I6 : PIv (gdone (rup (rupL q 89 0 d.2.1) 90 0 d.2.2.1) (nu q 88 0) (nI (nu q 62 l)) (nI (nu q 66 l)) (nI h) (nI r) (q.1 18 (40 * h + r))) B := by
          unfold gdone
          exact V_rup (V_rup (V_rup (V_rup (V_rup (V_rup (V_rup (PIv_e (q := q) rfl n12 I) n12 (by decide)) n12 (by decide)) n12 (by decide)) n12 (by decide)) n12 (by decide)) n12 (by decide)) n12 (by decide)
        have e82 : nu (gdone (rup (rupL q 89 0 d.2.1) 90 0 d.2.2.1) (nu q 88 0) (nI (nu q 62 l)) (nI (nu q 66 l)) (nI h) (nI r) (q.1 18 (40 * h + r))) 82 0 = nu q 82 0 := rfl
        have e12 : nu (gdone (rup (rupL q 89 0 d.2.1) 90 0 d.2.2.1) (nu q 88 0) (nI (nu q 62 l)) (nI (nu q 66 l)) (nI h) (nI r) (q.1 18 (40 * h + r))) 12 0 = nu q 12 0 := rfl
        have e45 : nu (gdone (rup (rupL q 89 0 d.2.1) 90 0 d.2.2.1) (nu q 88 0) (nI (nu q 62 l)) (nI (nu q 66 l)) (nI h) (nI r) (q.1 18 (40 * h + r))) 45 0 = nu q 45 0 := rfl
        have e46 : ∀ c, nu (gdone (rup (rupL q 89 0 d.2.1) 90 0 d.2.2.1) (nu q 88 0) (nI (nu q 62 l)) (nI (nu q 66 l)) (nI h) (nI r) (q.1 18 (40 * h + r))) 46 c = nu q 46 c := fun _ => rfl
        have e48 : ∀ i, (gdone (rup (rupL q 89 0 d.2.1) 90 0 d.2.2.1) (nu q 88 0) (nI (nu q 62 l)) (nI (nu q 66 l)) (nI h) (nI r) (q.1 18 (40 * h + r))).1 48 i = q.1 48 i := fun _ => rfl
        generalize gdone (rup (rupL q 89 0 d.2.1) 90 0 d.2.2.1) (nu q 88 0) (nI (nu q 62 l)) (nI (nu q 66 l)) (nI h) (nI r) (q.1 18 (40 * h + r)) = q6 at *
        rw [← e82]
        have H7 := D_ans (h := h) (c := nu q 62 l) (j := nu q 66 l) (v := d.2.1) (sg := d.2.2.1) H6 (by omega) (by rw [e45]; exact b2) (by rw [e46]; exact b4)
        have up : ∀ key, AKey q key → AKey (gansw q6 (nu q6 82 0) (nI h) (nI (nu q 62 l)) (nI (nu q 66 l)) d.2.1 d.2.2.1) key := fun key ⟨c, j, x, y, z⟩ => AK_nl (nla q6 _ _ _ _ _) ⟨c, j, x, by rw [e46]; exact y, by rw [e48]; exact z⟩
        refine ⟨V_cl I6 (by omega) (by omega) (nla _ _ _ _ _ _) (kia _ _ _ _ _ _), NN_L H7 (fun p hp => ⟨fun x hx => up _ ?_, fun x hx => up _ ?_⟩)⟩
        · have hx : x ∈ va_up L.1 (40 * h + r) d.1 p := hx
          by_cases e : p = 40 * h + r
          · rw [e, va_up_self] at hx
            exact hd x hx
          · rw [va_up_ne _ _ e] at hx
            exact (NN_9 H p hp).1 x hx
        · have hx : x ∈ doS d.2.2.2 (q.1 15 (40 * h + r)) L.2.1 (40 * h + r) (q.1 48 (60 * nu q 62 l + nu q 66 l)) p := hx
          unfold doS at hx
          split at hx
          · by_cases e : p = 40 * h + r
            · rw [e, va_up_self] at hx
              exact addK_P (NN_9 H _ (by omega)).2 AKy x hx
            · rw [va_up_ne _ _ e] at hx
              exact (NN_9 H p hp).2 x hx
          · exact (NN_9 H p hp).2 x hx
  · exact ⟨V_cl I n12 (by omega) (gk_nl _ _ _ _ _ _ _).1 (by rw [ti_k (gk_nl _ _ _ _ _ _ _).2 (by decide)]; decide), NN_up (D_know I H (by omega) hh b2) (Nat.le_succ _)⟩
