/-! the invariant is kept: deliver, the other kinds -/
theorem D_heard {q : xrho} {L : xLs} {n l : Nat} {B : Int} (P : PIv q B ∧ NN q L n) (hl : l < nu q 82 0) (k1 : nu q 60 l = 1) : PIv (gheardA q l (60 * nu q 61 l + nu q 66 l)) B ∧ NN (gheardA q l (60 * nu q 61 l + nu q 66 l)) L n := by
  obtain ⟨I, H⟩ := P
  have n12 := H.1.2.2.2.1.2
  obtain ⟨b2, b3, b4⟩ := (H.2.2.2.1 l hl).2.2.2.2.1 k1
  have c6 := H.1.1.2
  unfold gheardA
  split
  · refine ⟨V_rup (PIv_e (q := rup q 54 (60 * nu q 61 l + nu q 66 l) (nI 1)) rfl n12 (V_rup I n12 (by decide))) n12 (by decide), ?_⟩
    generalize hc : nu q 61 l = c at *
    generalize hj : nu q 66 l = j at *
    obtain ⟨a1, a2, a3, a4, a5, a6, a7, a8, a9⟩ := H
    have bb := (a1.2.1 c (by omega)).2
    have f : ∀ k i, k ≠ 54 → k ≠ 49 → (rup (rupL (rup q 54 (60 * c + j) (nI 1)) 53 (60 * c + j) (q.2 77 (3 * l))) 49 (60 * c + j) (q.1 73 l)).1 k i = q.1 k i := fun k i h1 h2 => by rw [rup_f _ _ _ _ h2, rupL_1, rup_f _ _ _ _ h1]
    have o : ∀ k i, i ≠ 60 * c + j → (rup (rupL (rup q 54 (60 * c + j) (nI 1)) 53 (60 * c + j) (q.2 77 (3 * l))) 49 (60 * c + j) (q.1 73 l)).1 k i = q.1 k i := fun k i h1 => by rw [rup_y _ _ _ _ h1, rupL_1, rup_y _ _ _ _ h1]
    have e54 : (rup (rupL (rup q 54 (60 * c + j) (nI 1)) 53 (60 * c + j) (q.2 77 (3 * l))) 49 (60 * c + j) (q.1 73 l)).1 54 (60 * c + j) = nI 1 := by rw [rup_f _ _ _ _ (by decide), rupL_1, rup_at]
    have o53 : ∀ i, i ≠ 60 * c + j → (rup (rupL (rup q 54 (60 * c + j) (nI 1)) 53 (60 * c + j) (q.2 77 (3 * l))) 49 (60 * c + j) (q.1 73 l)).2 53 i = q.2 53 i := fun i hi => by
      show (rupL (rup q 54 (60 * c + j) (nI 1)) 53 (60 * c + j) (q.2 77 (3 * l))).2 53 i = _
      rw [rupL_i, if_neg hi]
      rfl
    generalize rup (rupL (rup q 54 (60 * c + j) (nI 1)) 53 (60 * c + j) (q.2 77 (3 * l))) 49 (60 * c + j) (q.1 73 l) = q' at *
    have F : ∀ k, k ≠ 54 → k ≠ 49 → q'.1 k = q.1 k := fun k h1 h2 => funext fun i => f k i h1 h2
    have n46 : ∀ c, nu q' 46 c = nu q 46 c := fun c => nu_e (f 46 c (by decide) (by decide))
    refine ⟨N1_f (fun k hk => F k (by omega) (by omega)) a1, N2_f (fun k hk => F k (by omega) (by omega)) a2, ⟨fun c' j' x y => ?_, fun c' j' x y z => ?_, fun c' x y => ?_⟩, N4_f (fun k hk => F k (by omega) (by omega)) a4, N5_f (fun k hk => F k (by omega) (by omega)) a5, N6_f (fun k hk => F k (by omega) (by omega)) a6, N7_f (fun k hk => F k (by omega) (by omega)) a7, N8_f (fun k hk => F k (by omega) (by omega)) a8, N9_f (fun k hk => F k (by omega) (by omega)) a9⟩
    · rw [n46] at y
      have t := a3.1 c' j' x y
      refine ⟨isN_e (f 48 _ (by decide) (by decide)) t.1, isN_e (f 47 _ (by decide) (by decide)) t.2.1, fun e => ?_⟩
      by_cases g : 60 * c' + j' = 60 * c + j
      · rw [g, e54] at e
        exact absurd e (by decide)
      · rw [o _ _ g] at e ⊢
        exact t.2.2 e
    · rw [n46] at y
      have t := a3.2.1 c' j' x y z
      have g : 60 * c' + j' ≠ 60 * c + j := by
        by_cases e : c' = c
        · subst e; omega
        · omega
      rw [o 54 _ g, o 50 _ g, o53 _ g]
      exact t
    · rw [f 46 _ (by decide) (by decide)]
      rw [nu_e (f 45 0 (by decide) (by decide))] at x
      exact a3.2.2 c' x y
  · exact ⟨I, H⟩
theorem fil_f (f : Nat) (q : xrho) (a z : Nat) (v : Int32) {k : Nat} (h : k ≠ f) : (fil1 f q a z v).1 k = q.1 k := va_up_ne _ _ h
theorem D_gold {q : xrho} {L : xLs} {n l : Nat} {B : Int} (P : PIv q B ∧ NN q L n) (hl : l < nu q 82 0) (k2 : nu q 60 l = 2) : PIv (gold q l) B ∧ NN (gold q l) L n := by
  obtain ⟨I, H⟩ := P
  have n12 := H.1.2.2.2.1.2
  obtain ⟨b1, b2⟩ := (H.2.2.2.1 l hl).2.2.2.2.2.1 k2
  unfold gold
  split
  · exact ⟨I, H⟩
  · next c9 =>
    obtain ⟨d1, d2, -⟩ := b2 c9
    split
    · generalize nu q 58 (10000 * nu q 61 l + nu q 70 l) = x1
      generalize nu q 59 (10000 * nu q 61 l + (nu q 71 l - 1)) = x2
      generalize nu q 61 l = c
      generalize nu q 70 l = lo
      generalize nu q 71 l = hi
      have fr : ∀ k, ¬ (55 ≤ k ∧ k ≤ 59) → (goldq q c lo hi x1 x2 (q.1 63 l) (q.1 64 l) (q.1 72 l)).1 k = q.1 k := fun k hk => by
        unfold goldq cps
        simp (disch := omega) only [va_up_ne, fil_f]
      refine ⟨PIv_0 I (by rw [fr 12 (by decide)]) (fun s hs => ⟨fun k _ _ _ => by rw [fr k (by omega)], fun j _ => by rw [fr 9 (by decide)], fun k h hk => by unfold pkf at hk; rw [fr k (by omega)]⟩) ⟨fun k i _ _ _ _ => by rw [fr k (by omega)], by rw [fr 82 (by decide)]⟩ n12, ?_⟩
      unfold goldq
      refine NN_cps (NN_f (q := q) (fun k hk => ?_) rfl H) ⟨_, d1.2, d1.1⟩ ⟨_, d2.2, d2.1⟩
      have h8 : k ≠ 58 := fun e => by subst e; exact absurd hk (by unfold rel; decide)
      have h9 : k ≠ 59 := fun e => by subst e; exact absurd hk (by unfold rel; decide)
      rw [fil_f _ _ _ _ _ h8, fil_f _ _ _ _ _ h9]
    · exact ⟨I, H⟩
theorem NN_snd {q q' : xrho} {L : xLs} {n p : Nat} (hp : p < 240) (H : NN q' L n) : NN q' (L.1, va_up L.2.1 p (sndL (L.1 p)), L.2.2.1, L.2.2.2) n := NN_L H (fun s hs => ⟨(NN_9 H s hs).1, fun x hx => by
  have hx : x ∈ va_up L.2.1 p (sndL (L.1 p)) s := hx
  by_cases e : s = p
  · rw [e, va_up_self] at hx
    exact sndL_P (NN_9 H p hp).1 x hx
  · rw [va_up_ne _ _ e] at hx
    exact (NN_9 H s hs).2 x hx⟩)
theorem NN_beg {q : xrho} {L : xLs} {n l p : Nat} (H : NN q L n) (hl : l < nu q 82 0) (k3 : nu q 60 l = 3) (hp : p < 240) : NN (abeg q L l p).1 (abeg q L l p).2 n := by
  have h72 := (H.2.2.2.1 l hl).2.2.2.2.2.2.1 k3
  unfold abeg
  split
  · refine NN_snd (q := q) hp (NN_hd (p := p) H rfl (fun k i hk => ?_) ⟨isN_of (n := 2) (by unfold gbgq; simp (disch := omega) only [rup_f, rup_at]) (by decide) (by decide), isN_of (n := nu q 72 l) (by unfold gbgq; simp (disch := omega) only [rup_f, rup_at]; exact h72.1) h72.2 (by have := h72.2; omega), fun _ y => ?_⟩)
    · unfold gbgq
      rcases hk with hk | hk
      · simp (disch := omega) only [rup_f]
      · simp (disch := omega) only [rup_y]
    · have : (gbgq q l p).1 32 p = nI 1 := by unfold gbgq; simp (disch := omega) only [rup_f, rup_at]
      rw [this] at y
      exact absurd y (by decide)
  · exact H
theorem NN_took {q : xrho} {L : xLs} {n l h r : Nat} (H : NN q L n) (hl : nu q 82 0 < 1200) (hh : h < 6) (hr : r < 40) : NN (atook q L l h r).1 (atook q L l h r).2 n := by
  have z := H.2.2.2.2.2.1 (40 * h + r) (by omega)
  have HB : NN (gtkB q (40 * h + r)) L n := by
    refine NN_hd (p := 40 * h + r) H rfl (fun k i hk => ?_) ⟨z.1, z.2.1, fun _ y => ?_⟩
    · unfold gtkB
      rcases hk with hk | hk
      · simp (disch := omega) only [rup_f]
      · simp (disch := omega) only [rup_y]
    · have : (gtkB q (40 * h + r)).1 32 (40 * h + r) = nI 1 := by unfold gtkB; simp (disch := omega) only [rup_f, rup_at]
      rw [this] at y
      exact absurd y (by decide)
  have HA : NN (gtkA q (40 * h + r)) L n := by
    refine NN_hd (p := 40 * h + r) H rfl (fun k i hk => ?_) ⟨isN_of (n := 2) (by unfold gtkA; simp (disch := omega) only [rup_f, rup_at]) (by decide) (by decide), z.2.1, fun _ y => ?_⟩
    · unfold gtkA
      rcases hk with hk | hk
      · simp (disch := omega) only [rup_f]
      · simp (disch := omega) only [rup_y]
    · have : (gtkA q (40 * h + r)).1 32 (40 * h + r) = nI 1 := by unfold gtkA; simp (disch := omega) only [rup_f, rup_at]
      rw [this] at y
      exact absurd y (by decide)
  unfold atook
  split
  · split
    · split
      · split
        · have H3 := NN_rup (k := 33) (i := 40 * h + r) (x := nI 1) HB (by unfold rel; decide)
          have e82 : nu (rup (gtkB q (40 * h + r)) 33 (40 * h + r) (nI 1)) 82 0 = nu q 82 0 := rfl
          have := NN_new (k := 6) (to := nI 0) (fr := nI h) (rg := nI r) (ep := q.1 64 l) H3 (by omega) (by decide) ⟨0, by decide, rfl⟩ ⟨r, by omega, rfl⟩ (fun e => absurd e (by decide))
          rw [e82] at this
          exact this
        · exact HB
      · exact H
    · split
      · exact NN_snd (q := q) (by omega) HA
      · exact H
  · exact H
theorem NN_tk {q q1 : xrho} {L : xLs} {n l h r : Nat} {m : Int32} (H : NN q1 L n) (e82 : nu q1 82 0 = nu q 82 0) (hl : nu q 82 0 < 1200) (h62 : isN q1 62 l 5) (hh : h < 6) (hr : r < 40) (hm : m < 0 → m = Int32.ofInt (-1)) : NN (gtook q1 (nu q 82 0) l h r m) L n := by
  rw [← e82] at hl ⊢
  have g := gnew_at q1 (nu q1 82 0) (nI 5) (q1.1 62 l) (nI h) (nI r) (q1.1 64 l)
  have f : ∀ k i, k ≠ 67 → k ≠ 68 → (gtook q1 (nu q1 82 0) l h r m).1 k i = (gnew q1 (nu q1 82 0) (nI 5) (q1.1 62 l) (nI h) (nI r) (q1.1 64 l)).1 k i := fun k i h1 h2 => by
    unfold gtook
    rw [rup_f _ _ _ _ h2, rup_f _ _ _ _ h1]
  have e68 : (gtook q1 (nu q1 82 0) l h r m).1 68 (nu q1 82 0) = m := by unfold gtook; rw [rup_at]
  refine NN_nl H hl (gtk_nl _ _ _ _ _ _) (fun x hx => ?_) (ltr_of (k := 5) (by decide) ((f 60 _ (by decide) (by decide)).trans g.1) (isN_of ((f 61 _ (by decide) (by decide)).trans (g.2.1.trans h62.1)) h62.2 (by have := h62.2; omega)) (fun _ _ => isN_of ((f 63 _ (by decide) (by decide)).trans g.2.2.2.1) (by omega) (by omega)) (fun e => absurd e (by decide)) (fun e => absurd e (by decide)) (fun e => absurd e (by decide)) (fun e => absurd e (by decide)) (fun e => absurd e (by decide)) (fun _ => by rw [e68]; exact hm) (fun e => absurd e (by decide)))
  rw [f 76 x (by decide) (by decide), gnew_o _ _ _ _ _ _ _ (Or.inl (by decide)) (by decide)]
  exact H.2.2.2.2.1.2 x hx
theorem NN_atkp {q : xrho} {L : xLs} {n l p : Nat} (H : NN q L n) (hp : p < 240) (hl : l < nu q 82 0) (k4 : nu q 60 l = 4) (c : q.1 15 p = nI 4) : NN (atkp q L l p).1 (atkp q L l p).2 n := by
  have l4 := (H.2.2.2.1 l hl).2.2.2.2.2.2.2.1 k4
  have z := H.2.2.2.2.2.1 p hp
  have H1 : NN (rup q 23 p (q.1 23 p + nI 1)) L n := NN_rup H (by unfold rel; decide)
  unfold atkp
  split
  · have H2 : NN (rup (rup q 23 p (q.1 23 p + nI 1)) 15 p (nI 5)) L n := by
      refine NN_hd (p := p) H rfl (fun k i hk => ?_) ⟨isN_of (n := 5) (rup_at _ _ _ _) (by decide) (by decide), z.2.1, fun x _ => ?_⟩
      · rcases hk with hk | hk
        · simp (disch := omega) only [rup_f]
        · simp (disch := omega) only [rup_y]
      · rw [rup_at] at x
        exact absurd x (by decide)
    exact NN_L H2 (NN_9 H2)
  · refine NN_L H1 (fun s hs => ⟨fun x hx => ?_, (NN_9 H1 s hs).2⟩)
    have hx : x ∈ va_up L.1 p ((parcV q l (nu q 69 l)).foldl tkP (L.1 p)) s := hx
    by_cases e : s = p
    · rw [e, va_up_self] at hx
      refine tkF_P (P := AKey q) _ _ (fun y hy => ?_) (NN_9 H p hp).1 x hx
      unfold parcV win at hy
      obtain ⟨j, hj, ej⟩ := List.mem_map.mp hy
      rw [← ej]
      exact l4.2.2 j (List.mem_range.mp hj)
    · rw [va_up_ne _ _ e] at hx
      exact (NN_9 H1 s hs).1 x hx
theorem NN_parted {q : xrho} {L : xLs} {n l h r : Nat} (H : NN q L n) (hl2 : nu q 82 0 < 1200) (hl : l < nu q 82 0) (k4 : nu q 60 l = 4) (h68 : ¬ q.1 68 l < 0) (hh : h < 6) (hr : r < 40) : NN (aparted q L l h r).1 (aparted q L l h r).2 n := by
  have l4 := (H.2.2.2.1 l hl).2.2.2.2.2.2.2.1 k4
  have z := H.2.2.2.2.2.1 (40 * h + r) (by omega)
  have ae : ∀ (q : xrho) (L : xLs) (p k i : Nat), k ≠ 15 → k ≠ 23 → (atkp q L l p).1.1 k i = q.1 k i := fun q L p k i h1 h2 => by
    unfold atkp
    split
    · show (rup (rup q 23 p (q.1 23 p + nI 1)) 15 p (nI 5)).1 k i = _
      rw [rup_f _ _ _ _ h1, rup_f _ _ _ _ h2]
    · exact rup_f _ _ _ _ h2
  unfold aparted
  dsimp only
  split
  · have H1 : NN (gpaq q l (40 * h + r)) (va_up L.1 (40 * h + r) [], L.2.1, clrK L.2.2.1 (40 * h + r), L.2.2.2) n := by
      have H0 : NN (gpaq q l (40 * h + r)) L n := by
        refine NN_hd (p := 40 * h + r) H rfl (fun k i hk => ?_) ⟨isN_of (n := 4) (by unfold gpaq; simp (disch := omega) only [rup_f, rup_at]) (by decide) (by decide), z.2.1, fun x _ => ?_⟩
        · unfold gpaq
          rcases hk with hk | hk
          · simp (disch := omega) only [rup_f]
          · simp (disch := omega) only [rup_y]
        · have : (gpaq q l (40 * h + r)).1 15 (40 * h + r) = nI 4 := by unfold gpaq; simp (disch := omega) only [rup_f, rup_at]
          rw [this] at x
          exact absurd x (by decide)
      refine NN_L H0 (fun s hs => ⟨fun x hx => ?_, (NN_9 H0 s hs).2⟩)
      have hx : x ∈ va_up L.1 (40 * h + r) [] s := hx
      by_cases e : s = 40 * h + r
      · rw [e, va_up_self] at hx
        exact absurd hx (by simp)
      · rw [va_up_ne _ _ e] at hx
        exact (NN_9 H0 s hs).1 x hx
    have H2 := NN_atkp (l := l) (p := 40 * h + r) H1 (by omega) hl k4 (by unfold gpaq; simp (disch := omega) only [rup_f, rup_at])
    exact NN_tk H2 (nu_e (ae _ _ _ _ _ (by decide) (by decide))) hl2 (isN_e (ae _ _ _ _ _ (by decide) (by decide)) l4.2.1) hh hr (fun e => absurd e h68)
  · split
    · next c =>
      have H2 : NN (if q.1 68 l = q.1 23 (40 * h + r) then atkp q L l (40 * h + r) else (q, L)).1 (if q.1 68 l = q.1 23 (40 * h + r) then atkp q L l (40 * h + r) else (q, L)).2 n := by
        split
        · exact NN_atkp H (by omega) hl k4 c.1
        · exact H
      refine NN_tk H2 ?_ hl2 ?_ hh hr (fun e => absurd e h68)
      · split
        · exact nu_e (ae _ _ _ _ _ (by decide) (by decide))
        · rfl
      · split
        · exact isN_e (ae _ _ _ _ _ (by decide) (by decide)) l4.2.1
        · exact l4.2.1
    · split
      · exact NN_tk H rfl hl2 l4.2.1 hh hr (fun e => absurd e h68)
      · split
        · exact NN_tk H rfl hl2 l4.2.1 hh hr (fun _ => rfl)
        · exact H
