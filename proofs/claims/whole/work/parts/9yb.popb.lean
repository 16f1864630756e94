/-! the protocol is kept: merge -/
theorem PIv_2 {q q' : xrho} {B B' : Int} {r t : Nat} (I : PIv q B) (hB : B ≤ B') (h12 : q'.1 12 0 = q.1 12 0) (hs : ∀ s, s < 40 → s ≠ r → s ≠ t → sam q q' s) (sl : sal q q') (n12 : nu q 12 0 ≤ 40) (hr : r < nu q 12 0) (ht : t < nu q 12 0) (hv : pvS q' r B' (pS q r)) (hw : pvS q' t B' (pS q t)) : PIv q' B' := by
  have n : nu q' 12 0 = nu q 12 0 := nu_e h12
  refine ⟨fun s h => ?_, fun s h1 h2 => ?_⟩
  · rw [n] at h
    unfold pv
    rw [pS_sal sl]
    by_cases e : s = r
    · rw [e]; exact hv
    · by_cases e' : s = t
      · rw [e']; exact hw
      · exact pv_raise (pvS_sam (hs s (by omega) e e') (I.1 s h)) hB
  · rw [n] at h1
    exact fresh_sam (hs s h2 (by omega) (by omega)) (fun m hm => Or.inl (by rw [← pS_sal sl]; exact hm)) (I.2 s h1 h2)
theorem V_mrg {q : xrho} {B : Int} {x y : Nat} (I : PIv q B) (n12 : nu q 12 0 ≤ 40) (hB : B < 1900000000) (hx : x < nu q 12 0) (hy : y < nu q 12 0) (hne : x ≠ y) (h6x : isN q 6 x 5) (h6y : isN q 6 y 5) (h6e : nu q 6 x = nu q 6 y) (fx : gfree q x (nu q 6 x)) (fy : gfree q y (nu q 6 y)) : PIv (gmgq q x y (nu q 6 x)) (B + 2) := by
  have sl : sal q (gmgq q x y (nu q 6 x)) := ⟨fun k i _ _ _ _ => by simp (disch := omega) only [gmgq, gmg0, rup_f], by simp (disch := omega) only [gmgq, gmg0, rup_f]⟩
  have ex : ti q 5 x ≤ B := (Pin_q (I.1 x hx)).2.2.1
  have ey : ti q 5 y ≤ B := (Pin_q (I.1 y hy)).2.2.1
  have em : ti q 5 x < (mge q x y).toInt ∧ (mge q x y).toInt ≤ B + 2 := by
    unfold mge
    unfold ti at *
    by_cases c : q.1 5 x < q.1 5 y
    · rw [if_pos c, ti_add (by omega)]
      rw [Int32.lt_iff_toInt_lt] at c
      omega
    · rw [if_neg c, ti_add (by omega)]
      omega
  obtain ⟨f1, f2, f3⟩ := gfr_t fy
  have h6' : ti q 6 y = nu q 6 y := ti_k h6y.1 (by have := h6y.2; omega)
  refine PIv_2 (r := x) (t := y) I (by omega) (by simp (disch := omega) only [gmgq, gmg0, rup_f]) (fun s hs a b => ⟨fun k _ _ _ => by simp (disch := omega) only [gmgq, gmg0, rup_y, rup_f], fun j _ => by simp (disch := omega) only [gmgq, gmg0, rup_f], fun k i hk => by unfold pkf at hk; simp (disch := omega) only [gmgq, gmg0, rup_f, rup_y]⟩) sl n12 hx hy ?_ ?_
  · refine V_rsz (lo := (mglo q x y).toInt) (hi := (mghi q x y).toInt) I hx h6x fx em.1 em.2 (fun S z => ?_)
    have u : ∀ k z', k = 16 ∨ k = 17 ∨ k = 18 → (gmgq q x y (nu q 6 x)).1 k (40 * nu q 6 x + x) = z' → (fun i => ti (gmgq q x y (nu q 6 x)) k (40 * i + x)) = pfu (fun i => ti q k (40 * i + x)) (nu q 6 x) z'.toInt := fun k z' hk e => tv e (fun i hi => by simp (disch := omega) only [gmgq, gmg0, rup_y, rup_f]) rfl
    have e16 := u 16 (mglo q x y) (by decide) (by simp (disch := omega) only [gmgq, gmg0, rup_f, rup_at])
    have e17 := u 17 (mghi q x y) (by decide) (by simp (disch := omega) only [gmgq, gmg0, rup_f, rup_at])
    have e18 := u 18 (mge q x y) (by decide) (by simp (disch := omega) only [gmgq, gmg0, rup_f, rup_at])
    have e15 : (fun i => ti (gmgq q x y (nu q 6 x)) 15 (40 * i + x)) = fun i => ti q 15 (40 * i + x) := funext fun i => by
      unfold ti
      simp (disch := omega) only [gmgq, gmg0, rup_f, rup_y]
    have e2 : (gmgq q x y (nu q 6 x)).1 2 x = q.1 2 x := by simp (disch := omega) only [gmgq, gmg0, rup_f, rup_y]
    have e3 : ti (gmgq q x y (nu q 6 x)) 3 x = (mglo q x y).toInt := by unfold ti; simp (disch := omega) only [gmgq, gmg0, rup_f, rup_at]
    have e4 : ti (gmgq q x y (nu q 6 x)) 4 x = (mghi q x y).toInt := by unfold ti; simp (disch := omega) only [gmgq, gmg0, rup_f, rup_at]
    have e5 : ti (gmgq q x y (nu q 6 x)) 5 x = (mge q x y).toInt := by unfold ti; simp (disch := omega) only [gmgq, gmg0, rup_f, rup_at]
    unfold pvS
    rw [e2, e3, e4, e5, e15, e16, e17, e18]
    exact z
  · have t := pt_kill (I.1 y hy) (nu q 6 y) h6'.symm f1 f2 f3
    rw [h6e]
    have e15 : (fun i => ti (gmgq q x y (nu q 6 y)) 15 (40 * i + y)) = pfu (fun i => ti q 15 (40 * i + y)) (nu q 6 y) 0 := tv (x := nI 0) (rup_at _ _ _ _) (fun i hi => by simp (disch := omega) only [gmgq, gmg0, rup_y, rup_f]) (by decide)
    have f : ∀ k, k = 16 ∨ k = 17 ∨ k = 18 → (fun i => ti (gmgq q x y (nu q 6 y)) k (40 * i + y)) = fun i => ti q k (40 * i + y) := fun k hk => funext fun i => by
      unfold ti
      simp (disch := omega) only [gmgq, gmg0, rup_y, rup_f]
    have g : ∀ k, k = 3 ∨ k = 4 ∨ k = 5 → ti (gmgq q x y (nu q 6 y)) k y = ti q k y := fun k hk => by
      unfold ti
      simp (disch := omega) only [gmgq, gmg0, rup_y, rup_f]
    have e2 : ((gmgq q x y (nu q 6 y)).1 2 y = 1) = False := by
      have : (gmgq q x y (nu q 6 y)).1 2 y = nI 0 := by simp (disch := omega) only [gmgq, gmg0, rup_f, rup_at]
      rw [this]
      exact propext ⟨fun e => absurd e (by decide), False.elim⟩
    unfold pvS
    rw [e2, e15, f 16 (by decide), f 17 (by decide), f 18 (by decide), g 3 (by decide), g 4 (by decide), g 5 (by decide)]
    exact t
