/-! the protocol is kept: letters between book and hosts -/
theorem V_bk {q : xrho} {B : Int} {k h r : Nat} {e : Int32} (I : PIv q B) (n12 : nu q 12 0 ≤ 40) (hB : 0 ≤ B) (hn : nu q 82 0 < 1200) (hr : r < nu q 12 0) (hh : h < 6) (hk : k = 8 ∨ k = 10 ∨ k = 12 ∨ k = 14) (he : e.toInt ≤ ti q 8 r ∧ 0 ≤ e.toInt) (h8 : k = 8 → (∃ m', pS q r m' ∧ m' 0 = 7 ∧ m' 3 = e.toInt ∧ m' 1 = (h : Int)) ∧ ¬ prcv (fun i => ti q 15 (40 * i + r)) h) (h10 : k = 10 → e.toInt = ti q 8 r → ti q 7 r < 0 ∧ ∀ i : Nat, (i : Int) ≠ ti q 6 r → ¬ pown (fun i => ti q 15 (40 * i + r)) i) (h12 : k = 12 → e.toInt = ti q 8 r → ti q 7 r < 0 ∧ ∀ i : Nat, (i : Int) = ti q 6 r → pown (fun i => ti q 15 (40 * i + r)) i → ti q 18 (40 * i + r) ≠ ti q 8 r - 1) : PIv (gbk q k h r e) B := by
  have a := gnew_at q (nu q 82 0) (nI k) (nI 0) (nI h) (nI r) e
  unfold gbk
  refine PIv_nl I (nlq_new _ _ _ _ _ _ _) hn n12 (fun s hs es => ?_) (Or.inl ⟨r, hr, a.2.2.2.1⟩)
  have es : s = r := by
    rw [a.2.2.2.1, nI_ee (by omega) (by omega)] at es
    omega
  subst es
  have x0 : msg (gnew q (nu q 82 0) (nI k) (nI 0) (nI h) (nI s) e) (nu q 82 0) 0 = k := (congrArg Int32.toInt a.1).trans (nI_toInt (by clear h8; omega))
  have x2 : msg (gnew q (nu q 82 0) (nI k) (nI 0) (nI h) (nI s) e) (nu q 82 0) 2 = h := (congrArg Int32.toInt a.2.2.1).trans (nI_toInt (by omega))
  have x3 : msg (gnew q (nu q 82 0) (nI k) (nI 0) (nI h) (nI s) e) (nu q 82 0) 3 = e.toInt := congrArg Int32.toInt a.2.2.2.2.1
  have x4 : msg (gnew q (nu q 82 0) (nI k) (nI 0) (nI h) (nI s) e) (nu q 82 0) 4 = -9 := (congrArg Int32.toInt a.2.2.2.2.2.2.1).trans (by decide)
  have x5 : msg (gnew q (nu q 82 0) (nI k) (nI 0) (nI h) (nI s) e) (nu q 82 0) 5 = -9 := (congrArg Int32.toInt a.2.2.2.2.2.2.2.1).trans (by decide)
  generalize msg (gnew q (nu q 82 0) (nI k) (nI 0) (nI h) (nI s) e) (nu q 82 0) = x at x0 x2 x3 x4 x5 ⊢
  clear a
  have kk : (x 0 ≠ 4 ∧ x 0 ≠ 5 ∧ x 0 ≠ 6 ∧ x 0 ≠ 7 ∧ x 0 ≠ 3 ∧ x 0 ≠ 9 ∧ x 0 ≠ 11) ∧ (x 3 ≤ ti q 8 s ∧ 0 ≤ x 3 ∧ x 4 ≤ B ∧ x 5 ≤ B) ∧ (x 0 = 8 → k = 8) ∧ (x 0 = 10 → k = 10) ∧ (x 0 = 12 → k = 12) := by
    clear h8
    omega
  obtain ⟨⟨a1, a2, a3, a4, a5, a6, a7⟩, bb, c8, c10, c12⟩ := kk
  refine pok_g ⟨a1, a2, a3, a4⟩ bb (fun e => absurd e a5) (fun e8 => ?_) (fun e => absurd e a6) (fun e => ?_) (fun e => absurd e a7) (fun e => ?_)
  · have z := h8 (c8 e8)
    rw [x3, x2]
    refine ⟨z.1, fun i hi hc => ?_⟩
    have : i = h := Int.ofNat.inj hi
    subst this
    exact absurd hc z.2
  · rw [x3]
    exact h10 (c10 e)
  · rw [x3]
    exact h12 (c12 e)
theorem raise2 {q : xrho} {B B' : Int} (I : PIv q B) (h : B ≤ B') : PIv q B' := ⟨fun s hs => pv_raise (I.1 s hs) h, I.2⟩
theorem V_l7 {q : xrho} {B : Int} {l h r : Nat} (I : PIv q B) (n12 : nu q 12 0 ≤ 40) (hB : 0 ≤ B ∧ B < 2000000000) (hn : nu q 82 0 < 1200) (hl : l < nu q 82 0) (h63 : q.1 63 l = nI r) (hr : r < 40) (h60 : q.1 60 l = nI 7) (h61 : q.1 61 l = nI h) (hh : h < 6) : PIv (gmvd q 7 h r (q.1 64 l)) (B + 2) := by
  have k3 : ti q 60 l = 7 := ti_k h60 (by decide)
  have hr' := rg_lt I hl h63 hr (by omega)
  have I1 := V_open I n12 hl h63 hr h60 h61 hh
  have hS : pS q r (msg q l) := ⟨l, hl, h63, rfl⟩
  show PIv (if gown (gopen q (40 * h + r) (q.1 64 l)) (40 * h + r) ∧ (gopen q (40 * h + r) (q.1 64 l)).1 18 (40 * h + r) = q.1 64 l then gbk (gopen q (40 * h + r) (q.1 64 l)) 8 h r (q.1 64 l) else gopen q (40 * h + r) (q.1 64 l)) (B + 2)
  have sl : sal q (gopen q (40 * h + r) (q.1 64 l)) := by
    unfold gopen
    split
    · exact ⟨fun k i _ _ _ _ => by simp (disch := omega) only [rup_f, rup_f], by simp (disch := omega) only [rup_f, rup_f]⟩
    · exact sal_rf q
  have e12 : (gopen q (40 * h + r) (q.1 64 l)).1 12 0 = q.1 12 0 := by
    unfold gopen
    split
    · simp (disch := omega) only [rup_f]
    · rfl
  generalize gopen q (40 * h + r) (q.1 64 l) = q1 at *
  have n1 : nu q1 82 0 = nu q 82 0 := nu_e sl.2
  have m1 : nu q1 12 0 = nu q 12 0 := nu_e e12
  have hS1 : pS q1 r (msg q l) := by rw [pS_sal sl]; exact hS
  by_cases c : gown q1 (40 * h + r) ∧ q1.1 18 (40 * h + r) = q.1 64 l
  · rw [if_pos c]
    have pf := (Pin_f (I1.1 r (by omega)) (msg q l) hS1 (show 3 ≤ ti q 60 l by omega)).1
    have p3 := (Pin_q3 (I1.1 r (by omega)) (msg q l) hS1 (show 3 ≤ ti q 60 l by omega)).1
    refine V_bk I1 (by omega) (by omega) (by omega) (by omega) hh (Or.inl rfl) ⟨pf, p3⟩ (fun _ => ⟨⟨msg q l, hS1, k3, rfl, ti_k h61 (by omega)⟩, fun hc => ?_⟩) (fun e => absurd e (by decide)) (fun e => absurd e (by decide))
    have hc' : ti q1 15 (40 * h + r) = 4 ∨ ti q1 15 (40 * h + r) = 5 := hc
    rcases c.1 with a | a | a
    · have := ti_k (m := 1) a (by decide)
      omega
    · have := ti_k (m := 2) a (by decide)
      omega
    · have := ti_k (m := 3) a (by decide)
      omega
  · rw [if_neg c]
    exact I1
theorem V_l13 {q : xrho} {B : Int} {l h r : Nat} (I : PIv q B) (n12 : nu q 12 0 ≤ 40) (hB : 0 ≤ B ∧ B < 2000000000) (hn : nu q 82 0 < 1200) (hl : l < nu q 82 0) (h63 : q.1 63 l = nI r) (hr : r < 40) (h60 : q.1 60 l = nI 13) (hh : h < 6) : PIv (gmvd q 13 h r (q.1 64 l)) (B + 2) := by
  have k3 : ti q 60 l = 13 := ti_k h60 (by decide)
  have hr' := rg_lt I hl h63 hr (by omega)
  have hS : pS q r (msg q l) := ⟨l, hl, h63, rfl⟩
  show PIv (gbk (if (q.1 15 (40 * h + r) = nI 4 ∨ q.1 15 (40 * h + r) = nI 5) ∧ q.1 18 (40 * h + r) = q.1 64 l then rup q 15 (40 * h + r) (nI 0) else q) 14 h r (q.1 64 l)) (B + 2)
  have fin : ∀ q1 : xrho, PIv q1 (B + 2) → sal q q1 → q1.1 12 0 = q.1 12 0 → PIv (gbk q1 14 h r (q.1 64 l)) (B + 2) := fun q1 I1 sl e12 => by
    have n1 : nu q1 82 0 = nu q 82 0 := nu_e sl.2
    have m1 : nu q1 12 0 = nu q 12 0 := nu_e e12
    have hS1 : pS q1 r (msg q l) := by rw [pS_sal sl]; exact hS
    have pf := (Pin_f (I1.1 r (by omega)) (msg q l) hS1 (show 3 ≤ ti q 60 l by omega)).1
    have p3 := (Pin_q3 (I1.1 r (by omega)) (msg q l) hS1 (show 3 ≤ ti q 60 l by omega)).1
    exact V_bk I1 (by omega) (by omega) (by omega) (by omega) hh (Or.inr (Or.inr (Or.inr rfl))) ⟨pf, p3⟩ (fun e => absurd e (by decide)) (fun e => absurd e (by decide)) (fun e => absurd e (by decide))
  by_cases c : (q.1 15 (40 * h + r) = nI 4 ∨ q.1 15 (40 * h + r) = nI 5) ∧ q.1 18 (40 * h + r) = q.1 64 l
  · rw [if_pos c]
    exact fin _ (V_drop I n12 hr' c.1) ⟨fun k i _ _ _ _ => by simp (disch := omega) only [rup_f, rup_f], by simp (disch := omega) only [rup_f, rup_f]⟩ (by simp (disch := omega) only [rup_f])
  · rw [if_neg c]
    exact fin _ (raise2 I (by omega)) (sal_rf q) rfl

theorem V_l9 {q : xrho} {B : Int} {l h r : Nat} (I : PIv q B) (n12 : nu q 12 0 ≤ 40) (hB : 0 ≤ B ∧ B < 2000000000) (hn : nu q 82 0 < 1200) (hl : l < nu q 82 0) (h63 : q.1 63 l = nI r) (hr : r < 40) (h60 : q.1 60 l = nI 9) (h61 : q.1 61 l = nI h) (hh : h < 6) : PIv (gmvd q 9 h r (q.1 64 l)) (B + 2) := by
  have k3 : ti q 60 l = 9 := ti_k h60 (by decide)
  have hr' := rg_lt I hl h63 hr (by omega)
  have hS : pS q r (msg q l) := ⟨l, hl, h63, rfl⟩
  have q2 := (Pin_q2 (I.1 r hr') h).1
  show PIv (gbk (if q.1 15 (40 * h + r) = nI 3 ∧ q.1 18 (40 * h + r) + nI 1 = q.1 64 l then ggoq q h r (40 * h + r) (q.1 64 l) else q) 10 h r (q.1 64 l)) (B + 2)
  have fin : ∀ q1 : xrho, PIv q1 (B + 2) → sal q q1 → q1.1 12 0 = q.1 12 0 → ¬ (ti q1 15 (40 * h + r) = 3 ∧ ti q1 18 (40 * h + r) + 1 = ti q 64 l) → PIv (gbk q1 10 h r (q.1 64 l)) (B + 2) := fun q1 I1 sl e12 hno => by
    have n1 : nu q1 82 0 = nu q 82 0 := nu_e sl.2
    have m1 : nu q1 12 0 = nu q 12 0 := nu_e e12
    have hS1 : pS q1 r (msg q l) := by rw [pS_sal sl]; exact hS
    have Ir1 := I1.1 r (by omega)
    have pf := (Pin_f Ir1 (msg q l) hS1 (show 3 ≤ ti q 60 l by omega)).1
    have p3 := (Pin_q3 Ir1 (msg q l) hS1 (show 3 ≤ ti q 60 l by omega)).1
    refine V_bk I1 (by omega) (by omega) (by omega) (by omega) hh (Or.inr (Or.inl rfl)) ⟨pf, p3⟩ (fun e => absurd e (by decide)) (fun _ he => ?_) (fun e => absurd e (by decide))
    have h9 := Pin_h9 Ir1 (msg q l) hS1 k3 he
    refine ⟨h9.1, fun i hi ho => ?_⟩
    have b := Pin_b Ir1 i ho hi
    have et : (h : Int) = msg q l 1 := (ti_k h61 (by omega)).symm
    have e : i = h := by
      have := b.2.2.1
      have := h9.2
      omega
    subst e
    refine hno ⟨b.2.2.2.1, ?_⟩
    have b5 : ti q1 18 (40 * i + r) = ti q1 8 r - 1 := b.2.2.2.2.1
    have he' : ti q 64 l = ti q1 8 r := he
    omega
  by_cases c : q.1 15 (40 * h + r) = nI 3 ∧ q.1 18 (40 * h + r) + nI 1 = q.1 64 l
  · rw [if_pos c]
    refine fin _ (V_go I n12 hB.2 hl h63 hr h60 h61 hh c) ⟨fun k i _ _ _ _ => by simp (disch := omega) only [ggoq, rup_f], by simp (disch := omega) only [ggoq, rup_f]⟩ (by simp (disch := omega) only [ggoq, rup_f]) (fun e => ?_)
    have : (ggoq q h r (40 * h + r) (q.1 64 l)).1 15 (40 * h + r) = nI 0 := by simp (disch := omega) only [ggoq, rup_f, rup_at]
    have z := ti_k this (by decide)
    have := e.1
    omega
  · rw [if_neg c]
    refine fin _ (raise2 I (by omega)) (sal_rf q) rfl (fun e => c ⟨ti_e.mp (e.1.trans (by decide)), ti_e.mp ?_⟩)
    unfold ti at *
    rw [ti_add (by omega)]
    exact e.2
theorem V_l11 {q : xrho} {B : Int} {l h r : Nat} (I : PIv q B) (n12 : nu q 12 0 ≤ 40) (hB : 0 ≤ B ∧ B < 2000000000) (hn : nu q 82 0 < 1200) (hl : l < nu q 82 0) (h63 : q.1 63 l = nI r) (hr : r < 40) (h60 : q.1 60 l = nI 11) (h61 : q.1 61 l = nI h) (hh : h < 6) : PIv (gmvd q 11 h r (q.1 64 l)) (B + 2) := by
  have k3 : ti q 60 l = 11 := ti_k h60 (by decide)
  have hr' := rg_lt I hl h63 hr (by omega)
  have I1 := V_und I n12 hB.2 hl h63 hr h60 h61 hh
  have hS : pS q r (msg q l) := ⟨l, hl, h63, rfl⟩
  have pv : ti q 8 r ≤ B := (Pin_q (I.1 r hr')).2.2.2
  have pf0 : ti q 64 l ≤ ti q 8 r := (Pin_f (I.1 r hr') (msg q l) hS (show 3 ≤ ti q 60 l by omega)).1
  show PIv (if gown (gund q (40 * h + r) (q.1 64 l)) (40 * h + r) ∧ ¬ (gund q (40 * h + r) (q.1 64 l)).1 18 (40 * h + r) < q.1 64 l + nI 1 then gbk (gund q (40 * h + r) (q.1 64 l)) 12 h r (q.1 64 l) else gund q (40 * h + r) (q.1 64 l)) (B + 2)
  have sl : sal q (gund q (40 * h + r) (q.1 64 l)) := by
    unfold gund
    split
    · exact ⟨fun k i _ _ _ _ => by simp (disch := omega) only [rup_f, rup_f], by simp (disch := omega) only [rup_f, rup_f]⟩
    · exact sal_rf q
  have e12 : (gund q (40 * h + r) (q.1 64 l)).1 12 0 = q.1 12 0 := by
    unfold gund
    split
    · simp (disch := omega) only [rup_f]
    · rfl
  generalize gund q (40 * h + r) (q.1 64 l) = q1 at *
  have n1 : nu q1 82 0 = nu q 82 0 := nu_e sl.2
  have m1 : nu q1 12 0 = nu q 12 0 := nu_e e12
  have hS1 : pS q1 r (msg q l) := by rw [pS_sal sl]; exact hS
  by_cases c : gown q1 (40 * h + r) ∧ ¬ q1.1 18 (40 * h + r) < q.1 64 l + nI 1
  · rw [if_pos c]
    have Ir1 := I1.1 r (by omega)
    have pf := (Pin_f Ir1 (msg q l) hS1 (show 3 ≤ ti q 60 l by omega)).1
    have p3 := (Pin_q3 Ir1 (msg q l) hS1 (show 3 ≤ ti q 60 l by omega)).1
    refine V_bk I1 (by omega) (by omega) (by omega) (by omega) hh (Or.inr (Or.inr (Or.inl rfl))) ⟨pf, p3⟩ (fun e => absurd e (by decide)) (fun e => absurd e (by decide)) (fun _ he => ?_)
    have h11 := Pin_h11 Ir1 (msg q l) hS1 k3 he
    refine ⟨h11.1, fun i hi ho => ?_⟩
    have et : (h : Int) = msg q l 1 := (ti_k h61 (by omega)).symm
    have e : i = h := by
      have := h11.2
      omega
    subst e
    have c2 := c.2
    rw [Int32.lt_iff_toInt_lt, ti_add (by unfold ti at *; omega)] at c2
    unfold ti at *
    omega
  · rw [if_neg c]
    exact I1
