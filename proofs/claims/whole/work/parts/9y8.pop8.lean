/-! the protocol is kept: parts are sent -/
theorem gpart_f (q : xrho) (h r n : Nat) (hh : h < 6) : ∀ q', (∀ k, 60 ≤ k → k < 74 → k ≠ 69 → q'.1 k n = (gpart q h r n).1 k n) → msg q' n 0 = 4 ∧ msg q' n 1 = ti q 21 (40 * h + r) ∧ msg q' n 2 = h ∧ msg q' n 3 = (q.1 18 (40 * h + r) + nI 1).toInt ∧ msg q' n 4 = ti q 22 (40 * h + r) ∧ msg q' n 5 = ti q 23 (40 * h + r) ∧ msg q' n 7 = ti q 16 (40 * h + r) ∧ msg q' n 8 = ti q 17 (40 * h + r) ∧ q'.1 63 n = nI r := fun q' e => by
  have a := gnew_at q n (nI 4) (q.1 21 (40 * h + r)) (nI h) (nI r) (q.1 18 (40 * h + r) + nI 1)
  have f : ∀ k, k ≠ 67 → k ≠ 68 → k ≠ 70 → k ≠ 71 → (gpart q h r n).1 k n = (gnew q n (nI 4) (q.1 21 (40 * h + r)) (nI h) (nI r) (q.1 18 (40 * h + r) + nI 1)).1 k n := fun k h1 h2 h3 h4 => by
    unfold gpart
    rw [rup_f _ _ _ _ h4, rup_f _ _ _ _ h3, rup_f _ _ _ _ h2, rup_f _ _ _ _ h1]
  refine ⟨?_, ?_, ?_, ?_, ?_, ?_, ?_, ?_, ?_⟩
  · exact (congrArg Int32.toInt ((e 60 (by decide) (by decide) (by decide)).trans ((f 60 (by decide) (by decide) (by decide) (by decide)).trans a.1))).trans (by decide)
  · exact congrArg Int32.toInt ((e 61 (by decide) (by decide) (by decide)).trans ((f 61 (by decide) (by decide) (by decide) (by decide)).trans a.2.1))
  · exact (congrArg Int32.toInt ((e 62 (by decide) (by decide) (by decide)).trans ((f 62 (by decide) (by decide) (by decide) (by decide)).trans a.2.2.1))).trans (nI_toInt (by omega))
  · exact congrArg Int32.toInt ((e 64 (by decide) (by decide) (by decide)).trans ((f 64 (by decide) (by decide) (by decide) (by decide)).trans a.2.2.2.2.1))
  · refine congrArg Int32.toInt ((e 67 (by decide) (by decide) (by decide)).trans ?_)
    unfold gpart
    rw [rup_f _ _ _ _ (by decide), rup_f _ _ _ _ (by decide), rup_f _ _ _ _ (by decide), rup_at]
  · refine congrArg Int32.toInt ((e 68 (by decide) (by decide) (by decide)).trans ?_)
    unfold gpart
    rw [rup_f _ _ _ _ (by decide), rup_f _ _ _ _ (by decide), rup_at]
  · refine congrArg Int32.toInt ((e 70 (by decide) (by decide) (by decide)).trans ?_)
    unfold gpart
    rw [rup_f _ _ _ _ (by decide), rup_at]
  · refine congrArg Int32.toInt ((e 71 (by decide) (by decide) (by decide)).trans ?_)
    unfold gpart
    rw [rup_at]
  · exact (e 63 (by decide) (by decide) (by decide)).trans ((f 63 (by decide) (by decide) (by decide) (by decide)).trans a.2.2.2.1)
/-- a part is sent again -/
theorem V_gga {q q' : xrho} {B : Int} {h r : Nat} (I : PIv q B) (n12 : nu q 12 0 ≤ 40) (hB : 0 ≤ B ∧ B < 2000000000) (hn : nu q 82 0 < 1200) (hr : r < nu q 12 0) (hh : h < 6) (hg : ti q 15 (40 * h + r) = 2 ∨ ti q 15 (40 * h + r) = 3) (htk : ti q 32 (40 * h + r) = 0) (en : nlq q (nu q 82 0) q') (ef : ∀ k, 60 ≤ k → k < 74 → k ≠ 69 → q'.1 k (nu q 82 0) = (gpart q h r (nu q 82 0)).1 k (nu q 82 0)) (e69 : q'.1 69 (nu q 82 0) = q.1 28 (40 * h + r)) : PIv q' B := by
  obtain ⟨x0, x1, x2, x3, x4, x5, x7, x8, x63⟩ := gpart_f q h r (nu q 82 0) hh q' ef
  have x6 : msg q' (nu q 82 0) 6 = ti q 28 (40 * h + r) := congrArg Int32.toInt e69
  refine PIv_nl I en hn n12 (fun s hs e => ?_) (Or.inl ⟨r, hr, x63⟩)
  have es : s = r := by
    rw [x63, nI_ee (by omega) (by omega)] at e
    omega
  subst es
  have Ir := I.1 s hs
  have q2 : ti q 18 (40 * h + s) ≤ B ∧ ti q 22 (40 * h + s) ≤ B ∧ ti q 23 (40 * h + s) ≤ B := Pin_q2 Ir h
  obtain ⟨m, m1, m2, m3, m4, m5, m6, m7, m8, m9, m10⟩ := Pin_p Ir h hg htk
  have e3 : (q.1 18 (40 * h + s) + nI 1).toInt = ti q 18 (40 * h + s) + 1 := ti_add (by unfold ti at q2; omega)
  exact pok_dup Ir m1 (Or.inl x0) (x0.trans m2.symm) (x1.trans m3.symm) (x3.trans (e3.trans m5.symm)) ⟨by omega, by omega⟩ (fun _ => ⟨x4.trans m6.symm, x5.trans m7.symm, x6.trans m8.symm, x7.trans m9.symm, x8.trans m10.symm⟩)

/-- a new part is sent; st' is what the giver becomes -/
theorem V_snd {q q' : xrho} {B : Int} {h r : Nat} {y : Int32} {st' : Int} (I : PIv q B) (n12 : nu q 12 0 ≤ 40) (hB : 0 ≤ B ∧ B < 2000000000) (hn : nu q 82 0 < 1200) (hr : r < nu q 12 0) (hh : h < 6) (hst : ti q 15 (40 * h + r) = 2) (htk : ti q 32 (40 * h + r) ≠ 0) (hy : (0 ≤ y.toInt ∧ st' = 2) ∨ (y.toInt < 0 ∧ st' = 3)) (q1 : xrho) (en : nlq q1 (nu q 82 0) q') (sl : sal q q1) (ef : ∀ k, 60 ≤ k → k < 74 → k ≠ 69 → q'.1 k (nu q 82 0) = (gpart q h r (nu q 82 0)).1 k (nu q 82 0)) (e69 : q'.1 69 (nu q 82 0) = y) (hs : ∀ s, s < 40 → s ≠ r → sam q q1 s) (h12 : q1.1 12 0 = q.1 12 0) (hv : ∀ S, Pin (q.1 2 r = 1) (ti q 8 r) (ti q 5 r) (ti q 6 r) (ti q 7 r) (ti q 10 r) (ti q 11 r) (ti q 9 (4 * r)) (ti q 9 (4 * r + 1)) (ti q 9 (4 * r + 2)) (ti q 9 (4 * r + 3)) (ti q 3 r) (ti q 4 r) (pfu (fun h => ti q 15 (40 * h + r)) h st') (fun h => ti q 18 (40 * h + r)) (fun h => ti q 16 (40 * h + r)) (fun h => ti q 17 (40 * h + r)) (fun h => ti q 21 (40 * h + r)) (fun h => ti q 22 (40 * h + r)) (fun h => ti q 23 (40 * h + r)) (pfu (fun h => ti q 32 (40 * h + r)) h 0) (fun h => ti q 33 (40 * h + r)) (pfu (fun h => ti q 28 (40 * h + r)) h y.toInt) (fun h => ti q 30 (40 * h + r)) (fun h => ti q 31 (40 * h + r)) (B + 2) S → pvS q1 r (B + 2) S) : PIv q' (B + 2) := by
  obtain ⟨x0, x1, x2, x3, x4, x5, x7, x8, x63⟩ := gpart_f q h r (nu q 82 0) hh q' ef
  have x6 : msg q' (nu q 82 0) 6 = y.toInt := congrArg Int32.toInt e69
  have Ir := I.1 r hr
  have q2 : ti q 18 (40 * h + r) ≤ B ∧ ti q 22 (40 * h + r) ≤ B ∧ ti q 23 (40 * h + r) ≤ B := Pin_q2 Ir h
  have e3 : (q.1 18 (40 * h + r) + nI 1).toInt = ti q 18 (40 * h + r) + 1 := ti_add (by unfold ti at q2; omega)
  have n1 : nu q1 82 0 = nu q 82 0 := nu_e sl.2
  have en' : nlq q1 (nu q1 82 0) q' := by rw [n1]; exact en
  refine PIv_1 I (by omega) ((en.1 12 0 (by decide) (by decide)).trans h12) (fun s a b => ⟨sam_tr (hs s a b) (sam_nl en s), ?_⟩) n12 hr ?_
  · rw [pS_ne en' (by omega), pS_sal sl]
    rw [n1, x63]
    exact fun e => b ((nI_ee (by omega) (by omega)).mp e).symm
  · unfold pv
    rw [pS_eq en' (by omega) (by rw [n1]; exact x63), pS_sal sl]
    refine pvS_sam (sam_nl en r) (hv _ ?_)
    rw [n1]
    rcases hy with ⟨a, b⟩ | ⟨a, b⟩
    · have t := pt_send Ir h (msg q' (nu q 82 0)) hst htk x0 x1 x2 (x3.trans e3) x4 x5 x7 x8 (by omega)
      rw [x6] at t
      have e15 : pfu (fun h => ti q 15 (40 * h + r)) h st' = fun h => ti q 15 (40 * h + r) := funext fun i => by
        unfold pfu
        by_cases e : i = h
        · rw [if_pos e, e, hst, b]
        · rw [if_neg e]
      rw [e15]
      exact t
    · have t := pt_sendE Ir h (msg q' (nu q 82 0)) hst htk x0 x1 x2 (x3.trans e3) x4 x5 x7 x8 (by omega)
      rw [x6] at t
      rw [b]
      exact t
