/-! THE REFERENCE'S METHODS: small ones -/
theorem k_2 : Int32.ofInt 2 = nI 2 := rfl
theorem k_3 : Int32.ofInt 3 = nI 3 := rfl
theorem k_4 : Int32.ofInt 4 = nI 4 := rfl
theorem k_5 : Int32.ofInt 5 = nI 5 := rfl
theorem k_6 : Int32.ofInt 6 = nI 6 := rfl
theorem k_40 : Int32.ofInt 40 = nI 40 := rfl
theorem bool01 : xbool (if True then 1 else 0) = true := by decide
/-- refuse -/
def gref (q : xrho) (k : Nat) : xrho := rup q 1 k (q.1 1 k + Int32.ofInt 1)
theorem c_refuse {T0 MI B k : Nat} {q : xrho} {x : Int32} {M : xM} (hk : k < 7) (hx : -x = nI k) : xZ T0 MI 124 0 [some (vr (some B)), some (vi x)] [] (rput B q M) = some (some (vi x), rput B (gref q k) M) := by
  rw [rq_124_0, hx, xin_t hk (by decide)]
  simp only [cond_true]
  rw [nI_clamp (by omega)]
  rfl
/-- book -/
def gbook (q : xrho) (r : Nat) (lo hi e h : Int32) : xrho := rup (rup (rup (rup (rup (rup q 2 r (Int32.ofInt 1)) 3 r lo) 4 r hi) 5 r e) 6 r h) 7 r (Int32.ofInt (-1))
theorem c_book {T0 MI B r : Nat} {q : xrho} {lo hi e h : Int32} {M : xM} (hr : r < 40) : xZ T0 MI 126 0 [some (vr (some B)), some (vi (nI r)), some (vi lo), some (vi hi), some (vi e), some (vi h)] [] (rput B q M) = some (none, rput B (gbook q r lo hi e h) M) := by
  rw [rq_126_0, xin_t hr (by decide), xbool1]
  simp only [cond_true, Bool.and_true]
  rw [nI_clamp (by omega)]
  rfl
/-- isRange -/
theorem c_isRange {T0 MI B n : Nat} {q : xrho} {x : Int32} {M : xM} (hn : n ≤ 40) (hq : q.1 12 0 = nI n) (hb : ∀ r, r < 40 → xbool (q.1 2 r) = true) : xZ T0 MI 127 0 [some (vr (some B)), some (vi x)] [] (rput B q M) = some (some (vi (if (0 ≤ x ∧ x < nI n) ∧ q.1 2 x.toNatClampNeg = 1 then 1 else 0)), rput B q M) := by
  rw [rq_127_0, c_isIn, hq]
  simp only [Option.bind_some, xasI]
  by_cases h : 0 ≤ x ∧ x < nI n
  · rw [if_pos h, bq_127_8, if_neg (by decide)]
    obtain ⟨j, hj, rfl⟩ : ∃ j, j < n ∧ x = nI j := by
      rcases pk_ix x (n := n) (by omega) with h1 | h1 | h1
      · exact absurd h.1 (Int32.not_le.mpr h1)
      · exact absurd h.2 (Int32.not_lt.mpr h1)
      · exact h1
    rw [rq_127_11, xin_t (n := 40) (by omega) (by decide)]
    simp only [cond_true]
    rw [nI_clamp (by omega)]
    have hbj := hb j (by omega)
    simp only [xbool, Bool.or_eq_true, decide_eq_true_eq] at hbj
    rcases hbj with h0 | h0
    · rw [h0, if_pos rfl, bq_127_24, bq_127_25, xbool0, if_neg (by simp)]
      rfl
    · rw [h0, if_neg (by decide), bq_127_20, bq_127_25, xbool1, if_pos ⟨h, rfl⟩]
      rfl
  · rw [if_neg h, bq_127_8, if_pos rfl, bq_127_24, bq_127_25, xbool0, if_neg (fun h2 => h h2.1)]
    rfl
