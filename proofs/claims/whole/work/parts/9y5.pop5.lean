/-! the protocol is kept: a part comes -/
theorem gtk_f (q : xrho) (n l h r : Nat) (m : Int32) : msg (gtook q n l h r m) n 0 = 5 ∧ msg (gtook q n l h r m) n 3 = ti q 64 l ∧ msg (gtook q n l h r m) n 4 = ti q 67 l ∧ msg (gtook q n l h r m) n 5 = m.toInt ∧ (gtook q n l h r m).1 63 n = nI r := by
  have a := gnew_at q n (nI 5) (q.1 62 l) (nI h) (nI r) (q.1 64 l)
  unfold gtook
  have f : ∀ k, k ≠ 67 → k ≠ 68 → (rup (rup (gnew q n (nI 5) (q.1 62 l) (nI h) (nI r) (q.1 64 l)) 67 n (q.1 67 l)) 68 n m).1 k n = (gnew q n (nI 5) (q.1 62 l) (nI h) (nI r) (q.1 64 l)).1 k n := fun k h1 h2 => by rw [rup_f _ _ _ _ h2, rup_f _ _ _ _ h1]
  refine ⟨?_, ?_, ?_, ?_, ?_⟩
  · exact (congrArg Int32.toInt ((f 60 (by decide) (by decide)).trans a.1)).trans (by decide)
  · exact congrArg Int32.toInt ((f 64 (by decide) (by decide)).trans a.2.2.2.2.1)
  · exact congrArg Int32.toInt ((rup_f _ _ _ _ (show 67 ≠ 68 by decide)).trans (rup_at _ _ _ _))
  · exact congrArg Int32.toInt (rup_at _ _ _ _)
  · exact (f 63 (by decide) (by decide)).trans a.2.2.2.1
theorem gtk_nl (q : xrho) (n l h r : Nat) (m : Int32) : nlq q n (gtook q n l h r m) := nlq_up (nlq_up (nlq_new _ _ _ _ _ _ _) (by decide)) (by decide)
theorem V_tk {q : xrho} {B : Int} {l h r : Nat} {m : Int32} (I : PIv q B) (n12 : nu q 12 0 ≤ 40) (hn : nu q 82 0 < 1200) (hl : l < nu q 82 0) (h63 : q.1 63 l = nI r) (hr : r < nu q 12 0) (h60 : q.1 60 l = nI 4) (hm : m.toInt ≤ B) (hc : ∀ i t : Nat, 0 ≤ ti q 7 r → (i : Int) = ti q 6 r → pgiv (fun i => ti q 15 (40 * i + r)) i → (t : Int) = ti q 7 r → ti q 64 l = ti q 8 r → 0 ≤ m.toInt → ppge (fun i => ti q 30 (40 * i + r)) (fun i => ti q 31 (40 * i + r)) t (ti q 8 r) (ti q 67 l) ∧ (prcv (fun i => ti q 15 (40 * i + r)) t → ti q 18 (40 * t + r) = ti q 8 r → ti q 22 (40 * t + r) = ti q 67 l → ti q 15 (40 * t + r) = 5 ∨ m.toInt < ti q 23 (40 * t + r))) : PIv (gtook q (nu q 82 0) l h r m) B := by
  obtain ⟨x0, x3, x4, x5, x63⟩ := gtk_f q (nu q 82 0) l h r m
  refine PIv_nl I (gtk_nl _ _ _ _ _ _) hn n12 (fun s hs es => ?_) (Or.inl ⟨r, hr, x63⟩)
  have es : s = r := by
    rw [x63, nI_ee (by omega) (by omega)] at es
    omega
  subst es
  have k3 : ti q 60 l = 4 := ti_k h60 (by decide)
  have Ir := I.1 s hs
  have hS : pS q s (msg q l) := ⟨l, hl, h63, rfl⟩
  have pf : ti q 64 l ≤ ti q 8 s ∧ (ti q 60 l = 4 → 0 ≤ ti q 68 l) := Pin_f Ir (msg q l) hS (show 3 ≤ ti q 60 l by omega)
  have p3 : 0 ≤ ti q 64 l ∧ ti q 67 l ≤ B ∧ ti q 68 l ≤ B := Pin_q3 Ir (msg q l) hS (show 3 ≤ ti q 60 l by omega)
  generalize msg (gtook q (nu q 82 0) l h s m) (nu q 82 0) = x at x0 x3 x4 x5 ⊢
  unfold pok pokM
  refine ⟨fun _ => ⟨by omega, fun e => absurd e (by omega)⟩, fun _ => ⟨by omega, by omega, by omega⟩, fun e => absurd e (by omega), fun e => absurd e (by omega), fun e => absurd e (by omega), fun e => absurd e (by omega), fun e => absurd e (by omega), fun _ e => absurd e (by omega), fun _ _ e => absurd e (by omega), fun _ _ e => absurd e (by omega), fun e => absurd e (by omega), fun _ e => absurd e (by omega), fun _ e => absurd e (by omega), fun hT i hi h1 _ => ?_, fun _ _ _ _ _ _ e => absurd e (by omega), fun hT i t hi hg ht _ he hm0 => ?_, fun _ _ _ _ _ _ _ e => absurd e (by omega), fun _ _ _ _ e => absurd e (by omega)⟩
  · have := Pin_m1 Ir hT i hi h1 (msg q l) hS (Or.inl k3)
    have e3 : msg q l 3 = ti q 64 l := rfl
    omega
  · have z := hc i t hT hi hg ht (by omega) (by omega)
    rw [x4, x5]
    exact z
theorem tv {q Q : xrho} {k h r : Nat} {x : Int32} {y : Int} (hx : Q.1 k (40 * h + r) = x) (ho : ∀ i, i ≠ h → Q.1 k (40 * i + r) = q.1 k (40 * i + r)) (hy : x.toInt = y) : (fun i => ti Q k (40 * i + r)) = pfu (fun i => ti q k (40 * i + r)) h y := funext fun i => by
  unfold ti pfu
  by_cases e : i = h
  · subst e
    rw [if_pos rfl, hx, hy]
  · rw [if_neg e, ho i e]
theorem V_tk2 {q q1 : xrho} {B : Int} {l h r : Nat} (I : PIv q B) (n12 : nu q 12 0 ≤ 40) (hB : 0 ≤ B) (hn : nu q 82 0 < 1200) (hl : l < nu q 82 0) (h63 : q.1 63 l = nI r) (hr : r < nu q 12 0) (h60 : q.1 60 l = nI 4) (sl : sal q q1) (hs : ∀ s, s < 40 → s ≠ r → sam q q1 s) (h12 : q1.1 12 0 = q.1 12 0) (hv : pvS q1 r (B + 2) (pS q r)) (h7 : ti q1 7 r = ti q 7 r) (h8 : ti q1 8 r = ti q 8 r) (th : ∀ t : Nat, 0 ≤ ti q 7 r → (t : Int) = ti q 7 r → ti q 64 l = ti q 8 r → t = h) (hp : ti q 64 l = ti q 8 r → ppge (fun i => ti q1 30 (40 * i + r)) (fun i => ti q1 31 (40 * i + r)) h (ti q 8 r) (ti q 67 l)) (hx : ti q1 15 (40 * h + r) = 5 ∨ ti q 68 l < ti q1 23 (40 * h + r)) : PIv (gtook q1 (nu q 82 0) l h r (q.1 68 l)) (B + 2) := by
  have I1 : PIv q1 (B + 2) := PIv_1 I (by omega) h12 (fun s a b => ⟨hs s a b, pS_sal sl s⟩) n12 hr (by
    unfold pv
    rw [pS_sal sl]
    exact hv)
  have n1 : nu q1 82 0 = nu q 82 0 := nu_e sl.2
  have m1 : nu q1 12 0 = nu q 12 0 := nu_e h12
  have f : ∀ k, 60 ≤ k → k ≤ 72 → k ≠ 65 → k ≠ 66 → q1.1 k l = q.1 k l := fun k a b c d => sl.1 k l a b c d
  have f64 : ti q1 64 l = ti q 64 l := congrArg Int32.toInt (f 64 (by decide) (by decide) (by decide) (by decide))
  have f67 : ti q1 67 l = ti q 67 l := congrArg Int32.toInt (f 67 (by decide) (by decide) (by decide) (by decide))
  have hS : pS q r (msg q l) := ⟨l, hl, h63, rfl⟩
  have k3 : ti q 60 l = 4 := ti_k h60 (by decide)
  have p3 : 0 ≤ ti q 64 l ∧ ti q 67 l ≤ B ∧ ti q 68 l ≤ B := Pin_q3 (I.1 r hr) (msg q l) hS (show 3 ≤ ti q 60 l by omega)
  have z := V_tk (q := q1) (B := B + 2) (l := l) (h := h) (r := r) (m := q.1 68 l) I1 (by omega) (by omega) (by omega) (by rw [f 63 (by decide) (by decide) (by decide) (by decide)]; exact h63) (by omega) (by rw [f 60 (by decide) (by decide) (by decide) (by decide)]; exact h60) (by unfold ti at p3; omega) (fun i t hT hi hg ht he hm0 => by
    rw [f64, h8] at he
    have e := th t (by omega) (by omega) he
    subst e
    rw [h8, f67]
    exact ⟨hp he, fun _ _ _ => hx⟩)
  rw [n1] at z
  exact z
theorem V_parted {q : xrho} {L : xLs} {B : Int} {l h r : Nat} (I : PIv q B) (n12 : nu q 12 0 ≤ 40) (hB : 0 ≤ B ∧ B < 2000000000) (hn : nu q 82 0 < 1200) (hl : l < nu q 82 0) (h63 : q.1 63 l = nI r) (hr : r < 40) (h60 : q.1 60 l = nI 4) (h61 : q.1 61 l = nI h) (hh : h < 6) : PIv (aparted q L l h r).1 (B + 2) := by
  have k3 : ti q 60 l = 4 := ti_k h60 (by decide)
  have hr' := rg_lt I hl h63 hr (by omega)
  have Ir := I.1 r hr'
  have hS : pS q r (msg q l) := ⟨l, hl, h63, rfl⟩
  have hto : (h : Int) = msg q l 1 := (ti_k h61 (by omega)).symm
  have q2 : ti q 18 (40 * h + r) ≤ B ∧ ti q 22 (40 * h + r) ≤ B ∧ ti q 23 (40 * h + r) ≤ B := Pin_q2 Ir h
  have p3 : 0 ≤ ti q 64 l ∧ ti q 67 l ≤ B ∧ ti q 68 l ≤ B := Pin_q3 Ir (msg q l) hS (show 3 ≤ ti q 60 l by omega)
  have pf : ti q 64 l ≤ ti q 8 r ∧ (ti q 60 l = 4 → 0 ≤ ti q 68 l) := Pin_f Ir (msg q l) hS (show 3 ≤ ti q 60 l by omega)
  have no : PIv q (B + 2) := ⟨fun s hs => pv_raise (I.1 s hs) (by omega), I.2⟩
  have th : ∀ t : Nat, 0 ≤ ti q 7 r → (t : Int) = ti q 7 r → ti q 64 l = ti q 8 r → t = h := fun t hT ht he => by
    have a : msg q l 1 = ti q 7 r := (Pin_l4 Ir hT (msg q l) hS k3 he).1
    omega
  unfold aparted
  by_cases c : ganew q l (40 * h + r)
  · simp only []
    rw [tI_t c, if_pos rfl]
    obtain ⟨c1, c2, c3⟩ := c
    have hst : ti q 15 (40 * h + r) = 0 ∨ ti q 15 (40 * h + r) = 4 ∨ ti q 15 (40 * h + r) = 5 := by
      rcases c1 with a | a | a
      · exact Or.inl (ti_k (m := 0) a (by decide))
      · exact Or.inr (Or.inl (ti_k (m := 4) a (by decide)))
      · exact Or.inr (Or.inr (ti_k (m := 5) a (by decide)))
    have hm : msg q l 5 = 0 := ti_k (m := 0) c2 (by decide)
    have hp : ti q 30 (40 * h + r) < msg q l 3 ∨ (msg q l 3 = ti q 30 (40 * h + r) ∧ ti q 31 (40 * h + r) < msg q l 4) := by
      rcases c3 with a | ⟨a, b⟩
      · exact Or.inl (Int32.lt_iff_toInt_lt.mp a)
      · exact Or.inr ⟨congrArg Int32.toInt a, Int32.lt_iff_toInt_lt.mp b⟩
    have t := pt_panew Ir h (msg q l) hS k3 hto hst hm hp
    have e23' : ((gpaq q l (40 * h + r)).1 23 (40 * h + r) + nI 1).toInt = 1 := by
      have : (gpaq q l (40 * h + r)).1 23 (40 * h + r) = nI 0 := by simp (disch := omega) only [gpaq, rup_f, rup_at]
      rw [this]
      decide
    have e69 : (gpaq q l (40 * h + r)).1 69 l = q.1 69 l := by simp (disch := omega) only [gpaq, rup_f]
    unfold withT atkp
    rw [e69]
    by_cases g : q.1 69 l < 0
    · rw [if_pos g]
      have g' : msg q l 6 < 0 := ti_lt0.mp g
      rw [if_pos g'] at t
      have sl : sal q (rup (rup (gpaq q l (40 * h + r)) 23 (40 * h + r) ((gpaq q l (40 * h + r)).1 23 (40 * h + r) + nI 1)) 15 (40 * h + r) (nI 5)) := ⟨fun k i _ _ _ _ => by simp (disch := omega) only [gpaq, rup_f], by simp (disch := omega) only [gpaq, rup_f]⟩
      refine V_tk2 I n12 hB.1 hn hl h63 hr' h60 sl (fun s hs hne => ⟨fun k _ _ _ => by simp (disch := omega) only [gpaq, rup_f], fun j _ => by simp (disch := omega) only [gpaq, rup_f], fun k i hk => by unfold pkf at hk; simp (disch := omega) only [gpaq, rup_y]⟩) (by simp (disch := omega) only [gpaq, rup_f]) ?_ (by unfold ti; simp (disch := omega) only [gpaq, rup_f]) (by unfold ti; simp (disch := omega) only [gpaq, rup_f]) th (fun e => Or.inr ⟨?_, ?_⟩) (Or.inl ?_)
      · have e15 : (fun i => ti (rup (rup (gpaq q l (40 * h + r)) 23 (40 * h + r) ((gpaq q l (40 * h + r)).1 23 (40 * h + r) + nI 1)) 15 (40 * h + r) (nI 5)) 15 (40 * i + r)) = pfu (fun i => ti q 15 (40 * i + r)) h (5) := tv (x := nI 5) (by simp (disch := omega) only [gpaq, rup_f, rup_at]) (fun i hi => by simp (disch := omega) only [gpaq, rup_y]) (by decide)
        have e18 : (fun i => ti (rup (rup (gpaq q l (40 * h + r)) 23 (40 * h + r) ((gpaq q l (40 * h + r)).1 23 (40 * h + r) + nI 1)) 15 (40 * h + r) (nI 5)) 18 (40 * i + r)) = pfu (fun i => ti q 18 (40 * i + r)) h (msg q l 3) := tv (x := q.1 64 l) (by simp (disch := omega) only [gpaq, rup_f, rup_at]) (fun i hi => by simp (disch := omega) only [gpaq, rup_y]) rfl
        have e16 : (fun i => ti (rup (rup (gpaq q l (40 * h + r)) 23 (40 * h + r) ((gpaq q l (40 * h + r)).1 23 (40 * h + r) + nI 1)) 15 (40 * h + r) (nI 5)) 16 (40 * i + r)) = pfu (fun i => ti q 16 (40 * i + r)) h (msg q l 7) := tv (x := q.1 70 l) (by simp (disch := omega) only [gpaq, rup_f, rup_at]) (fun i hi => by simp (disch := omega) only [gpaq, rup_y]) rfl
        have e17 : (fun i => ti (rup (rup (gpaq q l (40 * h + r)) 23 (40 * h + r) ((gpaq q l (40 * h + r)).1 23 (40 * h + r) + nI 1)) 15 (40 * h + r) (nI 5)) 17 (40 * i + r)) = pfu (fun i => ti q 17 (40 * i + r)) h (msg q l 8) := tv (x := q.1 71 l) (by simp (disch := omega) only [gpaq, rup_f, rup_at]) (fun i hi => by simp (disch := omega) only [gpaq, rup_y]) rfl
        have e22 : (fun i => ti (rup (rup (gpaq q l (40 * h + r)) 23 (40 * h + r) ((gpaq q l (40 * h + r)).1 23 (40 * h + r) + nI 1)) 15 (40 * h + r) (nI 5)) 22 (40 * i + r)) = pfu (fun i => ti q 22 (40 * i + r)) h (msg q l 4) := tv (x := q.1 67 l) (by simp (disch := omega) only [gpaq, rup_f, rup_at]) (fun i hi => by simp (disch := omega) only [gpaq, rup_y]) rfl
        have e30 : (fun i => ti (rup (rup (gpaq q l (40 * h + r)) 23 (40 * h + r) ((gpaq q l (40 * h + r)).1 23 (40 * h + r) + nI 1)) 15 (40 * h + r) (nI 5)) 30 (40 * i + r)) = pfu (fun i => ti q 30 (40 * i + r)) h (msg q l 3) := tv (x := q.1 64 l) (by simp (disch := omega) only [gpaq, rup_f, rup_at]) (fun i hi => by simp (disch := omega) only [gpaq, rup_y]) rfl
        have e31 : (fun i => ti (rup (rup (gpaq q l (40 * h + r)) 23 (40 * h + r) ((gpaq q l (40 * h + r)).1 23 (40 * h + r) + nI 1)) 15 (40 * h + r) (nI 5)) 31 (40 * i + r)) = pfu (fun i => ti q 31 (40 * i + r)) h (msg q l 4) := tv (x := q.1 67 l) (by simp (disch := omega) only [gpaq, rup_f, rup_at]) (fun i hi => by simp (disch := omega) only [gpaq, rup_y]) rfl
        have e23 : (fun i => ti (rup (rup (gpaq q l (40 * h + r)) 23 (40 * h + r) ((gpaq q l (40 * h + r)).1 23 (40 * h + r) + nI 1)) 15 (40 * h + r) (nI 5)) 23 (40 * i + r)) = pfu (fun i => ti q 23 (40 * i + r)) h 1 := tv (by simp (disch := omega) only [rup_f, rup_at]) (fun i hi => by simp (disch := omega) only [gpaq, rup_y]) e23'
        unfold pvS
        rw [e15, e18, e16, e17, e22, e23, e30, e31]
        exact t
      · have a : (rup (rup (gpaq q l (40 * h + r)) 23 (40 * h + r) ((gpaq q l (40 * h + r)).1 23 (40 * h + r) + nI 1)) 15 (40 * h + r) (nI 5)).1 30 (40 * h + r) = q.1 64 l := by simp (disch := omega) only [gpaq, rup_f, rup_at]
        show _ = ((rup (rup (gpaq q l (40 * h + r)) 23 (40 * h + r) ((gpaq q l (40 * h + r)).1 23 (40 * h + r) + nI 1)) 15 (40 * h + r) (nI 5)).1 30 (40 * h + r)).toInt
        rw [a]
        exact e.symm
      · have a : (rup (rup (gpaq q l (40 * h + r)) 23 (40 * h + r) ((gpaq q l (40 * h + r)).1 23 (40 * h + r) + nI 1)) 15 (40 * h + r) (nI 5)).1 31 (40 * h + r) = q.1 67 l := by simp (disch := omega) only [gpaq, rup_f, rup_at]
        show ti q 67 l ≤ ((rup (rup (gpaq q l (40 * h + r)) 23 (40 * h + r) ((gpaq q l (40 * h + r)).1 23 (40 * h + r) + nI 1)) 15 (40 * h + r) (nI 5)).1 31 (40 * h + r)).toInt
        rw [a]
        exact Int.le_refl _
      · rw [ti_at]
        decide
    · rw [if_neg g]
      have g' : ¬ msg q l 6 < 0 := mt ti_lt0.mpr g
      rw [if_neg g'] at t
      have sl : sal q (rup (gpaq q l (40 * h + r)) 23 (40 * h + r) ((gpaq q l (40 * h + r)).1 23 (40 * h + r) + nI 1)) := ⟨fun k i _ _ _ _ => by simp (disch := omega) only [gpaq, rup_f], by simp (disch := omega) only [gpaq, rup_f]⟩
      refine V_tk2 I n12 hB.1 hn hl h63 hr' h60 sl (fun s hs hne => ⟨fun k _ _ _ => by simp (disch := omega) only [gpaq, rup_f], fun j _ => by simp (disch := omega) only [gpaq, rup_f], fun k i hk => by unfold pkf at hk; simp (disch := omega) only [gpaq, rup_y]⟩) (by simp (disch := omega) only [gpaq, rup_f]) ?_ (by unfold ti; simp (disch := omega) only [gpaq, rup_f]) (by unfold ti; simp (disch := omega) only [gpaq, rup_f]) th (fun e => Or.inr ⟨?_, ?_⟩) (Or.inr ?_)
      · have e15 : (fun i => ti (rup (gpaq q l (40 * h + r)) 23 (40 * h + r) ((gpaq q l (40 * h + r)).1 23 (40 * h + r) + nI 1)) 15 (40 * i + r)) = pfu (fun i => ti q 15 (40 * i + r)) h (4) := tv (x := nI 4) (by simp (disch := omega) only [gpaq, rup_f, rup_at]) (fun i hi => by simp (disch := omega) only [gpaq, rup_y]) (by decide)
        have e18 : (fun i => ti (rup (gpaq q l (40 * h + r)) 23 (40 * h + r) ((gpaq q l (40 * h + r)).1 23 (40 * h + r) + nI 1)) 18 (40 * i + r)) = pfu (fun i => ti q 18 (40 * i + r)) h (msg q l 3) := tv (x := q.1 64 l) (by simp (disch := omega) only [gpaq, rup_f, rup_at]) (fun i hi => by simp (disch := omega) only [gpaq, rup_y]) rfl
        have e16 : (fun i => ti (rup (gpaq q l (40 * h + r)) 23 (40 * h + r) ((gpaq q l (40 * h + r)).1 23 (40 * h + r) + nI 1)) 16 (40 * i + r)) = pfu (fun i => ti q 16 (40 * i + r)) h (msg q l 7) := tv (x := q.1 70 l) (by simp (disch := omega) only [gpaq, rup_f, rup_at]) (fun i hi => by simp (disch := omega) only [gpaq, rup_y]) rfl
        have e17 : (fun i => ti (rup (gpaq q l (40 * h + r)) 23 (40 * h + r) ((gpaq q l (40 * h + r)).1 23 (40 * h + r) + nI 1)) 17 (40 * i + r)) = pfu (fun i => ti q 17 (40 * i + r)) h (msg q l 8) := tv (x := q.1 71 l) (by simp (disch := omega) only [gpaq, rup_f, rup_at]) (fun i hi => by simp (disch := omega) only [gpaq, rup_y]) rfl
        have e22 : (fun i => ti (rup (gpaq q l (40 * h + r)) 23 (40 * h + r) ((gpaq q l (40 * h + r)).1 23 (40 * h + r) + nI 1)) 22 (40 * i + r)) = pfu (fun i => ti q 22 (40 * i + r)) h (msg q l 4) := tv (x := q.1 67 l) (by simp (disch := omega) only [gpaq, rup_f, rup_at]) (fun i hi => by simp (disch := omega) only [gpaq, rup_y]) rfl
        have e30 : (fun i => ti (rup (gpaq q l (40 * h + r)) 23 (40 * h + r) ((gpaq q l (40 * h + r)).1 23 (40 * h + r) + nI 1)) 30 (40 * i + r)) = pfu (fun i => ti q 30 (40 * i + r)) h (msg q l 3) := tv (x := q.1 64 l) (by simp (disch := omega) only [gpaq, rup_f, rup_at]) (fun i hi => by simp (disch := omega) only [gpaq, rup_y]) rfl
        have e31 : (fun i => ti (rup (gpaq q l (40 * h + r)) 23 (40 * h + r) ((gpaq q l (40 * h + r)).1 23 (40 * h + r) + nI 1)) 31 (40 * i + r)) = pfu (fun i => ti q 31 (40 * i + r)) h (msg q l 4) := tv (x := q.1 67 l) (by simp (disch := omega) only [gpaq, rup_f, rup_at]) (fun i hi => by simp (disch := omega) only [gpaq, rup_y]) rfl
        have e23 : (fun i => ti (rup (gpaq q l (40 * h + r)) 23 (40 * h + r) ((gpaq q l (40 * h + r)).1 23 (40 * h + r) + nI 1)) 23 (40 * i + r)) = pfu (fun i => ti q 23 (40 * i + r)) h 1 := tv (by simp (disch := omega) only [rup_f, rup_at]) (fun i hi => by simp (disch := omega) only [gpaq, rup_y]) e23'
        unfold pvS
        rw [e15, e18, e16, e17, e22, e23, e30, e31]
        exact t
      · have a : (rup (gpaq q l (40 * h + r)) 23 (40 * h + r) ((gpaq q l (40 * h + r)).1 23 (40 * h + r) + nI 1)).1 30 (40 * h + r) = q.1 64 l := by simp (disch := omega) only [gpaq, rup_f, rup_at]
        show _ = ((rup (gpaq q l (40 * h + r)) 23 (40 * h + r) ((gpaq q l (40 * h + r)).1 23 (40 * h + r) + nI 1)).1 30 (40 * h + r)).toInt
        rw [a]
        exact e.symm
      · have a : (rup (gpaq q l (40 * h + r)) 23 (40 * h + r) ((gpaq q l (40 * h + r)).1 23 (40 * h + r) + nI 1)).1 31 (40 * h + r) = q.1 67 l := by simp (disch := omega) only [gpaq, rup_f, rup_at]
        show ti q 67 l ≤ ((rup (gpaq q l (40 * h + r)) 23 (40 * h + r) ((gpaq q l (40 * h + r)).1 23 (40 * h + r) + nI 1)).1 31 (40 * h + r)).toInt
        rw [a]
        exact Int.le_refl _
      · rw [ti_at, e23']
        have hm' : ti q 68 l = 0 := hm
        omega
  · simp only []
    rw [tI_f c, if_neg (by decide)]
    by_cases d : gsame q l (40 * h + r)
    · rw [if_pos d]
      obtain ⟨d1, d2, d3, d4⟩ := d
      have hst : ti q 15 (40 * h + r) = 4 := ti_k d1 (by decide)
      have hep : ti q 18 (40 * h + r) = ti q 64 l := congrArg Int32.toInt d2
      have hac : ti q 22 (40 * h + r) = ti q 67 l := congrArg Int32.toInt d3
      have hle : ¬ ti q 23 (40 * h + r) < ti q 68 l := fun e => d4 (Int32.lt_iff_toInt_lt.mpr e)
      have f2 : ti q 18 (40 * h + r) ≤ ti q 8 r ∧ ti q 30 (40 * h + r) = ti q 18 (40 * h + r) ∧ ti q 31 (40 * h + r) = ti q 22 (40 * h + r) := Pin_f2 Ir h (Or.inl hst)
      by_cases g0 : q.1 68 l = q.1 23 (40 * h + r)
      · rw [if_pos g0]
        have hm : ti q 68 l = ti q 23 (40 * h + r) := congrArg Int32.toInt g0
        have f23 : (q.1 23 (40 * h + r) + nI 1).toInt = ti q 23 (40 * h + r) + 1 := ti_add (by unfold ti at q2; omega)
        have t := pt_ptake Ir h (msg q l) hS k3 hto hst hep hac hm
        unfold withT atkp
        by_cases g : q.1 69 l < 0
        · rw [if_pos g]
          have g' : msg q l 6 < 0 := ti_lt0.mp g
          rw [if_pos g'] at t
          have sl : sal q (rup (rup q 23 (40 * h + r) (q.1 23 (40 * h + r) + nI 1)) 15 (40 * h + r) (nI 5)) := ⟨fun k i _ _ _ _ => by simp (disch := omega) only [rup_f, rup_f], by simp (disch := omega) only [rup_f, rup_f]⟩
          refine V_tk2 I n12 hB.1 hn hl h63 hr' h60 sl (fun s hs hne => ⟨fun k _ _ _ => by simp (disch := omega) only [rup_f, rup_f], fun j _ => by simp (disch := omega) only [rup_f, rup_f], fun k i hk => by unfold pkf at hk; simp (disch := omega) only [rup_f, rup_y]⟩) (by simp (disch := omega) only [rup_f]) ?_ (by unfold ti; simp (disch := omega) only [rup_f]) (by unfold ti; simp (disch := omega) only [rup_f]) th (fun e => Or.inr ⟨?_, ?_⟩) (Or.inl ?_)
          · have e15 : (fun i => ti (rup (rup q 23 (40 * h + r) (q.1 23 (40 * h + r) + nI 1)) 15 (40 * h + r) (nI 5)) 15 (40 * i + r)) = pfu (fun i => ti q 15 (40 * i + r)) h 5 := tv (rup_at _ _ _ _) (fun i hi => by simp (disch := omega) only [rup_y]) (by decide)
            have e23 : (fun i => ti (rup (rup q 23 (40 * h + r) (q.1 23 (40 * h + r) + nI 1)) 15 (40 * h + r) (nI 5)) 23 (40 * i + r)) = pfu (fun i => ti q 23 (40 * i + r)) h (ti q 23 (40 * h + r) + 1) := tv (by simp (disch := omega) only [rup_f, rup_at]) (fun i hi => by simp (disch := omega) only [rup_y]) f23
            unfold pvS
            rw [e15, e23]
            exact t
          · show ti q 8 r = ti q 30 (40 * h + r)
            omega
          · show ti q 67 l ≤ ti q 31 (40 * h + r)
            omega
          · rw [ti_at]
            decide
        · rw [if_neg g]
          have g' : ¬ msg q l 6 < 0 := mt ti_lt0.mpr g
          rw [if_neg g'] at t
          have sl : sal q (rup q 23 (40 * h + r) (q.1 23 (40 * h + r) + nI 1)) := ⟨fun k i _ _ _ _ => by simp (disch := omega) only [rup_f, rup_f], by simp (disch := omega) only [rup_f, rup_f]⟩
          refine V_tk2 I n12 hB.1 hn hl h63 hr' h60 sl (fun s hs hne => ⟨fun k _ _ _ => by simp (disch := omega) only [rup_f, rup_f], fun j _ => by simp (disch := omega) only [rup_f, rup_f], fun k i hk => by unfold pkf at hk; simp (disch := omega) only [rup_f, rup_y]⟩) (by simp (disch := omega) only [rup_f]) ?_ (by unfold ti; simp (disch := omega) only [rup_f]) (by unfold ti; simp (disch := omega) only [rup_f]) th (fun e => Or.inr ⟨?_, ?_⟩) (Or.inr ?_)
          · have e15 : (fun i => ti (rup q 23 (40 * h + r) (q.1 23 (40 * h + r) + nI 1)) 15 (40 * i + r)) = pfu (fun i => ti q 15 (40 * i + r)) h 4 := tv (x := q.1 15 (40 * h + r)) (by simp (disch := omega) only [rup_f]) (fun i hi => by simp (disch := omega) only [rup_y]) hst
            have e23 : (fun i => ti (rup q 23 (40 * h + r) (q.1 23 (40 * h + r) + nI 1)) 23 (40 * i + r)) = pfu (fun i => ti q 23 (40 * i + r)) h (ti q 23 (40 * h + r) + 1) := tv (rup_at _ _ _ _) (fun i hi => by simp (disch := omega) only [rup_y]) f23
            unfold pvS
            rw [e15, e23]
            exact t
          · show ti q 8 r = ti q 30 (40 * h + r)
            omega
          · show ti q 67 l ≤ ti q 31 (40 * h + r)
            omega
          · rw [ti_at, f23]
            omega
      · rw [if_neg g0]
        have hne : ti q 68 l ≠ ti q 23 (40 * h + r) := fun e => g0 (ti_e.mp e)
        show PIv (gtook q (nu q 82 0) l h r (q.1 68 l)) (B + 2)
        refine V_tk no n12 hn hl h63 hr' h60 (by unfold ti at p3; omega) (fun i t hT hi hg ht he hm0 => ?_)
        have e := th t hT ht he
        subst e
        refine ⟨Or.inr ⟨?_, ?_⟩, fun _ _ _ => Or.inr ?_⟩
        · show ti q 8 r = ti q 30 (40 * t + r)
          omega
        · show ti q 67 l ≤ ti q 31 (40 * t + r)
          omega
        · unfold ti at *
          omega
    · rw [if_neg d]
      by_cases f : gready q l (40 * h + r)
      · rw [if_pos f]
        have hst : ti q 15 (40 * h + r) = 5 := ti_k f.1 (by decide)
        show PIv (gtook q (nu q 82 0) l h r (q.1 68 l)) (B + 2)
        refine V_tk no n12 hn hl h63 hr' h60 (by unfold ti at p3; omega) (fun i t hT hi hg ht he hm0 => ?_)
        have e := th t hT ht he
        subst e
        refine ⟨?_, fun _ _ _ => Or.inl hst⟩
        by_cases z : q.1 68 l = 0
        · have w : ¬ (q.1 30 (40 * t + r) < q.1 64 l ∨ q.1 64 l = q.1 30 (40 * t + r) ∧ q.1 31 (40 * t + r) < q.1 67 l) := fun e => c ⟨Or.inr (Or.inr f.1), z, e⟩
          rw [Int32.lt_iff_toInt_lt, Int32.lt_iff_toInt_lt, ← ti_e] at w
          show ti q 8 r < ti q 30 (40 * t + r) ∨ ti q 8 r = ti q 30 (40 * t + r) ∧ ti q 67 l ≤ ti q 31 (40 * t + r)
          unfold ti at *
          omega
        · have hz : 1 ≤ ti q 68 l := by
            have : ti q 68 l ≠ 0 := fun e => z (ti_e.mp (e.trans (by decide)))
            unfold ti at *
            omega
          exact (Pin_n1 Ir hT i t hi hg ht (msg q l) hS k3 he).2.1 hz
      · rw [if_neg f]
        by_cases z : q.1 15 (40 * h + r) = 0
        · rw [if_pos z]
          show PIv (gtook q (nu q 82 0) l h r (Int32.ofInt (-1))) (B + 2)
          refine V_tk no n12 hn hl h63 hr' h60 ?_ (fun i t hT hi hg ht he hm0 => ?_)
          · have : (Int32.ofInt (-1)).toInt = -1 := by decide
            omega
          · exact absurd hm0 (by decide)
        · rw [if_neg z]
          exact no
