/-! the protocol is kept: move, undo -/
theorem ti_lt0 {x : Int32} : x < 0 ↔ x.toInt < 0 := by
  rw [Int32.lt_iff_toInt_lt]
  have z : (0 : Int32).toInt = 0 := by decide
  rw [z]
theorem ti_le0 {x : Int32} : 0 ≤ x ↔ 0 ≤ x.toInt := by
  rw [Int32.le_iff_toInt_le]
  have z : (0 : Int32).toInt = 0 := by decide
  rw [z]
theorem gfr_t {q : xrho} {r h : Nat} (c : gfree q r h) : ti q 7 r < 0 ∧ (ti q 9 (4 * r) < 0 ∧ ti q 9 (4 * r + 1) < 0 ∧ ti q 9 (4 * r + 2) < 0 ∧ ti q 9 (4 * r + 3) < 0) ∧ ti q 15 (40 * h + r) = 1 := by
  obtain ⟨a, b, d⟩ := c
  have w : ∀ {x : Int32}, ¬ 0 ≤ x → x.toInt < 0 := fun {x} e => by
    rw [ti_le0] at e
    omega
  exact ⟨ti_lt0.mp a, ⟨w (fun e => b (Or.inl e)), w (fun e => b (Or.inr (Or.inl e))), w (fun e => b (Or.inr (Or.inr (Or.inl e)))), w (fun e => b (Or.inr (Or.inr (Or.inr e))))⟩, ti_k (m := 1) d (by decide)⟩
theorem gbeg_f (q : xrho) (n r : Nat) : msg (gbeg q n r) n 0 = 3 ∧ msg (gbeg q n r) n 3 = ti q 8 r ∧ msg (gbeg q n r) n 9 = ti q 7 r ∧ msg (gbeg q n r) n 4 = -9 ∧ msg (gbeg q n r) n 5 = -9 ∧ (gbeg q n r).1 63 n = nI r := by
  have a := gnew_at q n (Int32.ofInt 3) (q.1 6 r) (Int32.ofInt 0) (nI r) (q.1 8 r)
  unfold gbeg
  have f : ∀ k, k ≠ 72 → (rup (gnew q n (Int32.ofInt 3) (q.1 6 r) (Int32.ofInt 0) (nI r) (q.1 8 r)) 72 n (q.1 7 r)).1 k n = (gnew q n (Int32.ofInt 3) (q.1 6 r) (Int32.ofInt 0) (nI r) (q.1 8 r)).1 k n := fun k hk => rup_f _ _ _ _ hk
  refine ⟨?_, ?_, ?_, ?_, ?_, ?_⟩
  · exact (congrArg Int32.toInt ((f 60 (by decide)).trans a.1)).trans (by decide)
  · exact congrArg Int32.toInt ((f 64 (by decide)).trans a.2.2.2.2.1)
  · exact congrArg Int32.toInt (rup_at _ _ _ _)
  · exact (congrArg Int32.toInt ((f 67 (by decide)).trans a.2.2.2.2.2.2.1)).trans (by decide)
  · exact (congrArg Int32.toInt ((f 68 (by decide)).trans a.2.2.2.2.2.2.2.1)).trans (by decide)
  · exact (f 63 (by decide)).trans a.2.2.2.1
theorem gbeg_nl (q : xrho) (n r : Nat) : nlq q n (gbeg q n r) := nlq_up (nlq_new _ _ _ _ _ _ _) (by decide)
/-- a BEGIN letter -/
theorem V_gbeg {q : xrho} {B : Int} {r : Nat} (I : PIv q B) (n12 : nu q 12 0 ≤ 40) (hB : 0 ≤ B) (hn : nu q 82 0 < 1200) (hr : r < nu q 12 0) : PIv (gbeg q (nu q 82 0) r) B := by
  obtain ⟨x0, x3, x9, x4, x5, x63⟩ := gbeg_f q (nu q 82 0) r
  refine PIv_nl I (gbeg_nl _ _ _) hn n12 (fun s hs e => ?_) (Or.inl ⟨r, hr, x63⟩)
  have es : s = r := by
    rw [x63, nI_ee (by omega) (by omega)] at e
    omega
  subst es
  have v0 : 0 ≤ ti q 8 s := Pin_v0 (I.1 s hs)
  exact pok_g ⟨by omega, by omega, by omega, by omega⟩ ⟨by omega, by omega, by omega, by omega⟩ (fun _ _ _ => x9) (fun e => absurd e (by omega)) (fun e => absurd e (by omega)) (fun e => absurd e (by omega)) (fun e => absurd e (by omega)) (fun e => absurd e (by omega))
theorem V_mv {q : xrho} {B : Int} {r t : Nat} (I : PIv q B) (n12 : nu q 12 0 ≤ 40) (hB : 0 ≤ B ∧ B < 2000000000) (hn : nu q 82 0 < 1200) (hr : r < nu q 12 0) (h6 : isN q 6 r 5) (has : q.1 2 r = 1) (free : gfree q r (nu q 6 r)) (ht : t < 6) (hne : nu q 6 r ≠ t) : PIv (gbeg (rup (rup q 7 r (nI t)) 8 r (q.1 5 r + nI 1)) (nu q 82 0) r) (B + 2) := by
  have Ir := I.1 r hr
  obtain ⟨f1, f2, f3⟩ := gfr_t free
  have h6' : ti q 6 r = nu q 6 r := ti_k h6.1 (by have := h6.2; omega)
  have qq : 1 ≤ B ∧ 0 ≤ ti q 5 r ∧ ti q 5 r ≤ B ∧ ti q 8 r ≤ B := Pin_q Ir
  have sl : sal q (rup (rup q 7 r (nI t)) 8 r (q.1 5 r + nI 1)) := ⟨fun k i _ _ _ _ => by simp (disch := omega) only [rup_f, rup_f], by simp (disch := omega) only [rup_f, rup_f]⟩
  have I1 : PIv (rup (rup q 7 r (nI t)) 8 r (q.1 5 r + nI 1)) (B + 2) := by
    refine PIv_1 I (by omega) (by simp (disch := omega) only [rup_f]) (fun s hs hne => ⟨⟨fun k _ _ _ => by simp (disch := omega) only [rup_y], fun j _ => by simp (disch := omega) only [rup_f], fun k i hk => by unfold pkf at hk; simp (disch := omega) only [rup_f]⟩, pS_sal sl s⟩) n12 hr ?_
    have tt := pt_move Ir (nu q 6 r) (t : Int) h6'.symm f1 f2 has f3 (by omega) (by omega)
    have d7 : ti (rup (rup q 7 r (nI t)) 8 r (q.1 5 r + nI 1)) 7 r = t := by
      unfold ti
      rw [rup_f _ _ _ _ (by decide), rup_at, nI_toInt (by omega)]
    have d8 : ti (rup (rup q 7 r (nI t)) 8 r (q.1 5 r + nI 1)) 8 r = ti q 5 r + 1 := by
      unfold ti at *
      rw [rup_at, ti_add (by omega)]
    unfold pv pvS
    rw [pS_sal sl, d7, d8]
    exact tt
  have n1 : nu (rup (rup q 7 r (nI t)) 8 r (q.1 5 r + nI 1)) 82 0 = nu q 82 0 := nu_e sl.2
  have m1 : nu (rup (rup q 7 r (nI t)) 8 r (q.1 5 r + nI 1)) 12 0 = nu q 12 0 := nu_e (by simp (disch := omega) only [rup_f])
  have := V_gbeg (r := r) I1 (by omega) (by omega) (by omega) (by omega)
  rw [n1] at this
  exact this
/-- letters that are owed: GO, UNDO, DROP -/
theorem V_ow {q : xrho} {B : Int} {r k : Nat} (I : PIv q B) (n12 : nu q 12 0 ≤ 40) (hB : 0 ≤ B) (hn : nu q 82 0 < 1200) (hr : r < nu q 12 0) (hk : 1 ≤ k ∧ k < 4) (hw : ti q 9 (4 * r + k) = ti q 8 r) : PIv (gowedL q r k (nu q 82 0)) B := by
  obtain ⟨x0, x3, x1, x4, x5, x63⟩ := gow_f q r k (nu q 82 0) hk.2
  refine PIv_nl I (gow_nl _ _ _ _) hn n12 (fun s hs e => ?_) (Or.inl ⟨r, hr, x63⟩)
  have es : s = r := by
    rw [x63, nI_ee (by omega) (by omega)] at e
    omega
  subst es
  have v0 : 0 ≤ ti q 8 s := Pin_v0 (I.1 s hs)
  refine pok_g ⟨by omega, by omega, by omega, by omega⟩ ⟨by omega, by omega, by omega, by omega⟩ (fun e => absurd e (by omega)) (fun e => absurd e (by omega)) (fun e _ => ?_) (fun e => absurd e (by omega)) (fun e _ => ?_) (fun e => absurd e (by omega))
  · have : k = 1 := by omega
    subst this
    exact ⟨Pin_g1 (I.1 s hs) hw, x1⟩
  · have : k = 2 := by omega
    subst this
    have g2 := Pin_g2 (I.1 s hs) hw
    exact ⟨g2.1, x1.trans g2.2⟩
theorem V_un {q : xrho} {B : Int} {r : Nat} (I : PIv q B) (n12 : nu q 12 0 ≤ 40) (hB : 0 ≤ B ∧ B < 2000000000) (hn : nu q 82 0 + 2 ≤ 1200) (hr : r < nu q 12 0) (h7 : 0 ≤ q.1 7 r) : PIv (gowedL (gowedL (gundoq q r) r 2 (nu q 82 0)) r 3 (nu q 82 0 + 1)) (B + 2) := by
  have Ir := I.1 r hr
  have qq : 1 ≤ B ∧ 0 ≤ ti q 5 r ∧ ti q 5 r ≤ B ∧ ti q 8 r ≤ B := Pin_q Ir
  have sl : sal q (gundoq q r) := ⟨fun k i _ _ _ _ => by simp (disch := omega) only [gundoq, rup_f], by simp (disch := omega) only [gundoq, rup_f]⟩
  have d9 : ∀ i, ti (gundoq q r) 9 (4 * r + i) = if i = 2 ∨ i = 3 then ti q 8 r else ti q 9 (4 * r + i) := fun i => by
    have : (gundoq q r).1 9 (4 * r + i) = if i = 3 then q.1 8 r else if i = 2 then q.1 8 r else q.1 9 (4 * r + i) := by
      simp (disch := omega) only [gundoq, rup_f, rup_i]
      simp
    unfold ti
    rw [this]
    by_cases a : i = 3
    · rw [if_pos a, if_pos (Or.inr a)]
    · rw [if_neg a]
      by_cases b : i = 2
      · rw [if_pos b, if_pos (Or.inl b)]
      · rw [if_neg b, if_neg (by omega)]
  have d8 : ti (gundoq q r) 8 r = ti q 8 r := by unfold ti; simp (disch := omega) only [gundoq, rup_f]
  have I1 : PIv (gundoq q r) (B + 2) := by
    refine PIv_1 I (by omega) (by simp (disch := omega) only [gundoq, rup_f]) (fun s hs hne => ⟨⟨fun k _ _ _ => by simp (disch := omega) only [gundoq, rup_y, rup_f], fun j _ => by simp (disch := omega) only [gundoq, rup_y, rup_f], fun k i hk => by unfold pkf at hk; simp (disch := omega) only [gundoq, rup_f]⟩, pS_sal sl s⟩) n12 hr ?_
    have t := pt_undo Ir (ti_le0.mp h7)
    have d90 : ti (gundoq q r) 9 (4 * r) = ti q 9 (4 * r) := d9 0
    have d91 : ti (gundoq q r) 9 (4 * r + 1) = ti q 9 (4 * r + 1) := d9 1
    have d92 : ti (gundoq q r) 9 (4 * r + 2) = ti q 8 r := d9 2
    have d93 : ti (gundoq q r) 9 (4 * r + 3) = ti q 8 r := d9 3
    have d10 : ti (gundoq q r) 10 r = ti q 6 r := by unfold ti; simp (disch := omega) only [gundoq, rup_f, rup_at]
    have d11 : ti (gundoq q r) 11 r = ti q 7 r := by unfold ti; simp (disch := omega) only [gundoq, rup_f, rup_at]
    have d5 : ti (gundoq q r) 5 r = ti q 8 r + 1 := by
      have : (gundoq q r).1 5 r = q.1 8 r + nI 1 := by simp (disch := omega) only [gundoq, rup_f, rup_at]
      unfold ti at *
      rw [this, ti_add (by omega)]
    have d7 : ti (gundoq q r) 7 r = -1 := by
      have : (gundoq q r).1 7 r = Int32.ofInt (-1) := by simp (disch := omega) only [gundoq, rup_f, rup_at]
      unfold ti
      rw [this]
      decide
    unfold pv pvS
    rw [pS_sal sl, d90, d91, d92, d93, d10, d11, d5, d7]
    exact t
  have n1 : nu (gundoq q r) 82 0 = nu q 82 0 := nu_e sl.2
  have m1 : nu (gundoq q r) 12 0 = nu q 12 0 := nu_e (by simp (disch := omega) only [gundoq, rup_f])
  have I2 := V_ow (r := r) (k := 2) I1 (by omega) (by omega) (by omega) (by omega) (by decide) (by rw [d9 2, d8]; rfl)
  rw [n1] at I2
  have e2 : nlq (gundoq q r) (nu q 82 0) (gowedL (gundoq q r) r 2 (nu q 82 0)) := gow_nl _ _ _ _
  have n2 : nu (gowedL (gundoq q r) r 2 (nu q 82 0)) 82 0 = nu q 82 0 + 1 := nu_nl e2 (by omega)
  have m2 : nu (gowedL (gundoq q r) r 2 (nu q 82 0)) 12 0 = nu q 12 0 := (nu_e (e2.1 12 0 (by decide) (by decide))).trans m1
  have I3 := V_ow (r := r) (k := 3) I2 (by omega) (by omega) (by omega) (by omega) (by decide) (by
    have a : ti (gowedL (gundoq q r) r 2 (nu q 82 0)) 9 (4 * r + 3) = ti (gundoq q r) 9 (4 * r + 3) := by unfold ti; rw [e2.1 9 _ (by decide) (by decide)]
    have b : ti (gowedL (gundoq q r) r 2 (nu q 82 0)) 8 r = ti (gundoq q r) 8 r := by unfold ti; rw [e2.1 8 _ (by decide) (by decide)]
    rw [a, b, d9 3, d8]
    rfl)
  rw [n2] at I3
  exact I3
