/-! THE REFERENCE'S PUBLIC METHODS, first ones: what they answer, and the contents behind -/
/-- the number as a place of n, if it is one -/
def ix (x : Int32) (n : Nat) : Option Nat := if 0 ≤ x ∧ x < nI n then some x.toNatClampNeg else none
theorem ix_some {x : Int32} {n j : Nat} (hn : n < 2 ^ 31) (h : ix x n = some j) : j < n ∧ x = nI j ∧ (0 ≤ x ∧ x < nI n) := by
  unfold ix at h
  split at h
  · rename_i hc
    cases h
    rcases pk_ix x hn with h1 | h1 | ⟨k, hk, rfl⟩
    · exact absurd hc.1 (Int32.not_le.mpr h1)
    · exact absurd hc.2 (Int32.not_lt.mpr h1)
    · rw [nI_clamp (by omega)]
      exact ⟨hk, rfl, hc⟩
  · cases h
theorem ix_none {x : Int32} {n : Nat} (h : ix x n = none) : ¬ (0 ≤ x ∧ x < nI n) := by
  unfold ix at h
  split at h
  · cases h
  · assumption
theorem c_isIn_s {T0 MI : Nat} {x : Int32} {n j : Nat} {M : xM} (hn : n < 2 ^ 31) (h : ix x n = some j) : xZ T0 MI 125 0 [some (vi x), some (vi (nI n))] [] M = some (some (vi 1), M) := by
  rw [c_isIn, if_pos (ix_some hn h).2.2]
theorem c_isIn_n {T0 MI : Nat} {x : Int32} {n : Nat} {M : xM} (h : ix x n = none) : xZ T0 MI 125 0 [some (vi x), some (vi (nI n))] [] M = some (some (vi 0), M) := by
  rw [c_isIn, if_neg (ix_none h)]
theorem neg1 : -(Int32.ofInt (-1)) = nI 1 := by decide
theorem neg2 : -(Int32.ofInt (-2)) = nI 2 := by decide
theorem neg3 : -(Int32.ofInt (-3)) = nI 3 := by decide
theorem neg4 : -(Int32.ofInt (-4)) = nI 4 := by decide
theorem neg5 : -(Int32.ofInt (-5)) = nI 5 := by decide
theorem neg6 : -(Int32.ofInt (-6)) = nI 6 := by decide
theorem one0 : ¬ ((1 : Int32) = 0) := by decide
/-- rise -/
def grise (q : xrho) (x : Int32) : Int32 × xrho := match ix x 6 with
  | none => (Int32.ofInt (-1), gref q 1)
  | some h => if q.1 0 h = 0 then (Int32.ofInt 1, rup q 0 h (Int32.ofInt 1)) else (Int32.ofInt (-4), gref q 4)
theorem c_rise {T0 MI B : Nat} {q : xrho} {x : Int32} {M : xM} : xZ T0 MI 188 0 [some (vr (some B)), some (vi x)] [] (rput B q M) = some (some (vi (grise q x).1), rput B (grise q x).2 M) := by
  rw [bq_188_0, k_6]
  unfold grise
  cases hx : ix x 6 with
  | none =>
    rw [c_isIn_n hx]
    simp only [Option.bind_some, xasI]
    rw [bq_188_6, if_pos rfl, rq_188_9, c_refuse (by decide) neg1]
    simp only [Option.bind_some, xasI]
    rw [bq_188_14]
  | some h =>
    obtain ⟨hh, rfl, -⟩ := ix_some (by decide) hx
    rw [c_isIn_s (by decide) hx]
    simp only [Option.bind_some, xasI]
    rw [bq_188_6, if_neg one0, rq_188_15, xin_t hh (by decide), cond_true, nI_clamp (by omega)]
    by_cases h0 : q.1 0 h = 0
    · rw [if_pos h0, if_pos h0, rq_188_31, xin_t hh (by decide), xbool1, nI_clamp (by omega)]
      rfl
    · rw [if_neg h0, if_neg h0, rq_188_24, c_refuse (by decide) neg4]
      simp only [Option.bind_some, xasI]
      rw [bq_188_30]
/-- lose -/
def glose (q : xrho) (n : Nat) (x : Int32) : Int32 × xrho := match ix x n with
  | none => (Int32.ofInt (-1), gref q 1)
  | some l => if q.1 75 l = 0 then (Int32.ofInt 1, rup q 75 l (Int32.ofInt 1)) else (Int32.ofInt (-5), gref q 5)
theorem c_lose {T0 MI B n : Nat} {q : xrho} {x : Int32} {M : xM} (hn : n ≤ 1200) (hq : q.1 82 0 = nI n) : xZ T0 MI 186 0 [some (vr (some B)), some (vi x)] [] (rput B q M) = some (some (vi (glose q n x).1), rput B (glose q n x).2 M) := by
  rw [rq_186_0, hq]
  unfold glose
  cases hx : ix x n with
  | none =>
    rw [c_isIn_n hx]
    simp only [Option.bind_some, xasI]
    rw [bq_186_8, if_pos rfl, rq_186_11, c_refuse (by decide) neg1]
    simp only [Option.bind_some, xasI]
    rw [bq_186_16]
  | some h =>
    obtain ⟨hh, rfl, -⟩ := ix_some (by omega) hx
    rw [c_isIn_s (by omega) hx]
    simp only [Option.bind_some, xasI]
    rw [bq_186_8, if_neg one0, rq_186_17, xin_t (n := 1200) (by omega) (by decide), cond_true, nI_clamp (by omega)]
    by_cases h0 : q.1 75 h = 0
    · rw [if_pos h0, if_pos h0, rq_186_33, xin_t (n := 1200) (by omega) (by decide), xbool1, nI_clamp (by omega)]
      rfl
    · rw [if_neg h0, if_neg h0, rq_186_26, c_refuse (by decide) neg5]
      simp only [Option.bind_some, xasI]
      rw [bq_186_32]
/-- weigh -/
def gweigh (q : xrho) (h : Nat) : Nat → Nat → Int32 → Int32
  | _, 0, a => a
  | r, m + 1, a => gweigh q h (r + 1) m (a + if gown q (40 * h + r) then q.1 19 (40 * h + r) else nI 0)
theorem c_weigh_l {T0 MI B h n : Nat} {q : xrho} {M : xM} (hh : h < 6) (hn : n ≤ 40) (hq : q.1 12 0 = nI n) : ∀ m r, r + m = n → ∀ a, xZ T0 MI 193 4 [some (vr (some B)), some (vi (nI h)), some (vi a), some (vi (nI r))] [] (rput B q M) = some (some (vi (gweigh q h r m a)), rput B q M) := by
  intro m
  induction m with
  | zero =>
    intro r hr a
    rw [rq_193_4, hq, if_pos (nI_le (by omega) (by omega)), bq_193_47]
    rfl
  | succ m ih =>
    intro r hr a
    rw [rq_193_4, hq, if_neg (nI_ge (by omega) (by omega)), bq_193_12, c_spot]
    simp only [Option.bind_some, xasI]
    rw [rq_193_19, c_isOwn (by omega)]
    simp only [Option.bind_some, xasI]
    by_cases h0 : gown q (40 * h + r)
    · rw [if_pos h0, bq_193_22, if_neg one0, rq_193_25, c_spot]
      simp only [Option.bind_some, xasI]
      rw [rq_193_34, xin_t (a := 40 * h + r) (by omega) (by decide), cond_true, nI_clamp (n := 40 * h + r) (by omega), bq_193_39, k_1, nI_add, ih (r + 1) (by omega)]
      conv => rhs; unfold gweigh
      rw [if_pos h0]
    · rw [if_neg h0, bq_193_22, if_pos rfl, bq_193_38, bq_193_39, k_1, nI_add, ih (r + 1) (by omega)]
      conv => rhs; unfold gweigh
      rw [if_neg h0]
      rfl
theorem c_weigh {T0 MI B h n : Nat} {q : xrho} {o2 o3 : Option xV} {M : xM} (hh : h < 6) (hn : n ≤ 40) (hq : q.1 12 0 = nI n) : xZ T0 MI 193 0 [some (vr (some B)), some (vi (nI h)), o2, o3] [] (rput B q M) = some (some (vi (gweigh q h 0 n (nI 0))), rput B q M) := by
  rw [bq_193_0, k_0]
  exact c_weigh_l hh hn hq n 0 (by omega) _
def gweight (q : xrho) (n : Nat) (x : Int32) : Int32 × xrho := match ix x 6 with
  | none => (Int32.ofInt (-1), gref q 1)
  | some h => (gweigh q h 0 n (nI 0), q)
theorem c_weight {T0 MI B n : Nat} {q : xrho} {x : Int32} {M : xM} (hn : n ≤ 40) (hq : q.1 12 0 = nI n) : xZ T0 MI 194 0 [some (vr (some B)), some (vi x)] [] (rput B q M) = some (some (vi (gweight q n x).1), rput B (gweight q n x).2 M) := by
  rw [bq_194_0, k_6]
  unfold gweight
  cases hx : ix x 6 with
  | none =>
    rw [c_isIn_n hx]
    simp only [Option.bind_some, xasI]
    rw [bq_194_6, if_pos rfl, rq_194_17, c_refuse (by decide) neg1]
    simp only [Option.bind_some, xasI]
    rw [bq_194_22]
  | some h =>
    obtain ⟨hh, rfl, -⟩ := ix_some (by decide) hx
    rw [c_isIn_s (by decide) hx]
    simp only [Option.bind_some, xasI]
    rw [bq_194_6, if_neg one0, rq_194_9, c_weigh hh hn hq]
    simp only [Option.bind_some, xasI]
    rw [bq_194_14, bq_194_22]
/-- caller -/
def gcaller (q : xrho) (c n : Nat) : Int32 × xrho := if q.1 0 0 = 0 then (Int32.ofInt (-4), gref q 4) else if c = 6 then (Int32.ofInt (-6), gref q 6) else (nI c, glearn c 0 n (rup q 45 0 (nI (c + 1))))
theorem glearn_ne (c : Nat) {k : Nat} (hk : k < 55 ∨ 60 ≤ k) : ∀ m r q, (glearn c r m q).1 k = q.1 k
  | 0, _, _ => rfl
  | m + 1, r, q => by
    unfold glearn
    rw [glearn_ne c hk m (r + 1)]
    split
    · rfl
    · rw [cps_ne _ _ _ _ _ _ _ _ hk]
theorem c_caller {T0 MI B c n : Nat} {q : xrho} {M : xM} (hc : c ≤ 6) (hcq : q.1 45 0 = nI c) (hn : n ≤ 40) (hq : q.1 12 0 = nI n) (hs : ∀ r, r < n → okSp q r) : xZ T0 MI 144 0 [some (vr (some B))] [] (rput B q M) = some (some (vi (gcaller q c n).1), rput B (gcaller q c n).2 M) := by
  rw [rq_144_0, k_0, xin_t (a := 0) (n := 6) (by decide) (by decide), cond_true, nI_clamp (by decide)]
  unfold gcaller
  by_cases h0 : q.1 0 0 = 0
  · rw [if_pos h0, if_pos h0, rq_144_9, c_refuse (by decide) neg4]
    simp only [Option.bind_some, xasI]
    rw [bq_144_15]
  rw [if_neg h0, if_neg h0, rq_144_16, hcq, k_6]
  by_cases h1 : c = 6
  · subst h1
    rw [if_pos rfl, if_pos rfl, rq_144_25, c_refuse (by decide) neg6]
    simp only [Option.bind_some, xasI]
    rw [bq_144_31]
  · rw [if_neg h1, if_neg (fun e => h1 ((nI_eq (by omega) (by omega)).mp e)), rq_144_32, hcq, k_1, nI_add, rup_at, show nI (c + 1) - nI 1 = nI c from nI_s1 c, c_learns (n := n) (by omega) hn (by rw [rup_ne _ _ _ _ (by decide)]; exact hq) (fun r hr => by
      unfold okSp
      rw [rup_ne _ _ _ _ (by decide), rup_ne _ _ _ _ (by decide)]
      exact hs r hr)]
    simp only [Option.bind_some, Option.isNone_none, cond_true]
    rw [rq_144_52, glearn_ne c (by decide), rup_at, k_1, show nI (c + 1) - nI 1 = nI c from nI_s1 c]
