/-! the protocol is kept: merge -/
theorem PIv_2 {q q' : xrho} {B B' : Int} {r t : Nat} (I : PIv q B) (hB : B ≤ B') (h12 : q'.1 12 0 = q.1 12 0) (hs : ∀ s, s < 40 → s ≠ r → s ≠ t → sam q q' s) (sl : sal q q') (n12 : nu q 12 0 ≤ 40) (hr : r < nu q 12 0) (ht : t < nu q 12 0) (hv : pvS q' r B' (pS q r)) (hw : pvS q' t B' (pS q t)) : PIv q' B' := by
  have n : nu q' 12 0 = nu q 12 0 := nu_e h12
  refine ⟨fun s h => ?_, fun s h1 h2 => ?_⟩
  · rw [n] at h
    unfold pv
    rw [pS_sal sl]
    by_cases e : s = r
    · rw [e]; exact hv
    · by_cases e' : s = t
      · rw [e']; exact hw
      · exact pv_raise (pvS_sam (hs s (by omega) e e') (I.1 s h)) hB
  · rw [n] at h1
    exact fresh_sam (hs s h2 (by omega) (by omega)) (fun m hm => Or.inl (by rw [← pS_sal sl]; exact hm)) (I.2 s h1 h2)
