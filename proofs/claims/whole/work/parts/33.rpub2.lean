/-! THE REFERENCE'S PUBLIC METHODS: again, call, answer, learn, copy, move, undo -/
/-- a number of the contents -/
def nu (q : xrho) (k i : Nat) : Nat := (q.1 k i).toNatClampNeg
def isN (q : xrho) (k i b : Nat) : Prop := q.1 k i = nI (nu q k i) ∧ nu q k i ≤ b
theorem nu_of {q : xrho} {k i n : Nat} (h : q.1 k i = nI n) (hn : n < 2 ^ 31) : nu q k i = n := by
  unfold nu
  rw [h, nI_clamp hn]
theorem isN_of {q : xrho} {k i n b : Nat} (h : q.1 k i = nI n) (hb : n ≤ b) (hn : n < 2 ^ 31) : isN q k i b := ⟨by rw [nu_of h hn, h], by rw [nu_of h hn]; exact hb⟩
theorem sw_cases (x : Int32) (n : Nat) (hn : n < 2 ^ 31) : ((x.toInt < 0 ∨ (n : Int) < x.toInt) ∧ ∀ k, k ≤ n → x ≠ nI k) ∨ ∃ k, k ≤ n ∧ x = nI k := by
  by_cases h : x < 0
  · refine Or.inl ⟨Or.inl (Int32.lt_iff_toInt_lt.mp h), fun k hk e => ?_⟩
    rw [e] at h
    exact nI_pos (by omega) h
  · obtain ⟨j, hj, rfl⟩ := nI_of h
    by_cases h2 : j ≤ n
    · exact Or.inr ⟨j, h2, rfl⟩
    · refine Or.inl ⟨Or.inr ?_, fun k hk e => ?_⟩
      · rw [nI_toInt hj]; omega
      · have := (nI_eq hj (by omega)).mp e; omega
/-- one of a row of answers -/
def gsw {α : Type} (x : Int32) (d : α) : Nat → List α → α
  | _, [] => d
  | k, a :: r => if x = nI k then a else gsw x d (k + 1) r
theorem gsw_out {α : Type} {x : Int32} {d : α} : ∀ {r : List α} {k n : Nat}, k + r.length ≤ n + 1 → (∀ j, j ≤ n → x ≠ nI j) → gsw x d k r = d
  | [], _, _, _, _ => rfl
  | _ :: r, k, n, hl, h => by
    unfold gsw
    rw [if_neg (h k (by simp at hl; omega))]
    exact gsw_out (by simp at hl; omega) h
theorem gsw_in {α : Type} {d : α} : ∀ {r : List α} {k j : Nat}, k + r.length < 2 ^ 31 → j < r.length → gsw (nI (k + j)) d k r = r.getD j d
  | [], _, _, _, h => absurd h (by simp)
  | a :: r, k, 0, _, _ => by
    unfold gsw
    rw [Nat.add_zero, if_pos rfl]
    rfl
  | a :: r, k, j + 1, hl, h => by
    unfold gsw
    simp only [List.length_cons] at hl h
    rw [if_neg (fun e => by have := (nI_eq (by omega) (by omega)).mp e; omega), show k + (j + 1) = (k + 1) + j by omega, gsw_in (by omega) (by omega)]
    rfl
def gcallO (q : xrho) (x y : Int32) : Option (Nat × Nat) := match ix x (nu q 45 0) with
  | none => none
  | some c => match ix y (nu q 46 c) with
    | none => none
    | some n => some (c, n)
theorem gcallO_s {q : xrho} {x y : Int32} {c n : Nat} (h45 : isN q 45 0 6) (h46 : ∀ c, c < 6 → isN q 46 c 60) (h : gcallO q x y = some (c, n)) : c < 6 ∧ n < 60 ∧ x = nI c ∧ y = nI n ∧ c < nu q 45 0 ∧ n < nu q 46 c ∧ ix x (nu q 45 0) = some c ∧ ix y (nu q 46 c) = some n := by
  unfold gcallO at h
  split at h
  · cases h
  · rename_i c' hx
    split at h
    · cases h
    · rename_i n' hy
      cases h
      have h1 := ix_some (by have := h45.2; omega) hx
      have hc : c < 6 := by have := h45.2; omega
      have h2 := ix_some (by have := (h46 c hc).2; omega) hy
      exact ⟨hc, by have := (h46 c hc).2; omega, h1.2.1, h2.2.1, h1.1, h2.1, hx, hy⟩
theorem c_isCall_s {T0 MI B c n : Nat} {q : xrho} {x y : Int32} {M : xM} (h45 : isN q 45 0 6) (h46 : ∀ c, c < 6 → isN q 46 c 60) (h : gcallO q x y = some (c, n)) : xZ T0 MI 149 0 [some (vr (some B)), some (vi x), some (vi y)] [] (rput B q M) = some (some (vi 1), rput B q M) := by
  obtain ⟨hc, hn, hx, hy, -, -, hxx, hyy⟩ := gcallO_s h45 h46 h
  have b1 := h45.2
  have b2 := (h46 c hc).2
  rw [rq_149_0, h45.1, c_isIn_s (by omega) hxx]
  subst hx
  simp (decide := true) (disch := omega) only [bq_149_8, rq_149_11, Option.bind_some, xasI, xasL, xasR, xin_t, cond_true, cond_false, nI_clamp, k_0, k_1, k_2, k_3, k_4, k_5, k_6, k_40, k_60, k_500, k_10000, pk_mul, nI_add, nI_e0, nI_ee, nI_leI, nI_ltI, xbool0, xbool1, xbn0, xbn1, xb_0, xb_1, reduceIte, one0, Option.isNone_none, ne_eq, not_true_eq_false, not_false_eq_true, if_true, if_false, ite_not]
  rw [(h46 c hc).1, c_isIn_s (by omega) hyy]
  simp (decide := true) (disch := omega) only [bq_149_21, bq_149_24, bq_149_29, Option.bind_some, xasI, xasL, xasR, xin_t, cond_true, cond_false, nI_clamp, k_0, k_1, k_2, k_3, k_4, k_5, k_6, k_40, k_60, k_500, k_10000, pk_mul, nI_add, nI_e0, nI_ee, nI_leI, nI_ltI, xbool0, xbool1, xbn0, xbn1, xb_0, xb_1, reduceIte, one0, Option.isNone_none, ne_eq, not_true_eq_false, not_false_eq_true, if_true, if_false, ite_not]
  rfl
theorem c_isCall_n {T0 MI B : Nat} {q : xrho} {x y : Int32} {M : xM} (h45 : isN q 45 0 6) (h46 : ∀ c, c < 6 → isN q 46 c 60) (h : gcallO q x y = none) : xZ T0 MI 149 0 [some (vr (some B)), some (vi x), some (vi y)] [] (rput B q M) = some (some (vi 0), rput B q M) := by
  unfold gcallO at h
  rw [rq_149_0, h45.1]
  have b1 := h45.2
  split at h
  · rename_i hx
    rw [c_isIn_n hx]
    simp (decide := true) (disch := omega) only [bq_149_8, bq_149_28, bq_149_29, Option.bind_some, xasI, xasL, xasR, xin_t, cond_true, cond_false, nI_clamp, k_0, k_1, k_2, k_3, k_4, k_5, k_6, k_40, k_60, k_500, k_10000, pk_mul, nI_add, nI_e0, nI_ee, nI_leI, nI_ltI, xbool0, xbool1, xbn0, xbn1, xb_0, xb_1, reduceIte, one0, Option.isNone_none, ne_eq, not_true_eq_false, not_false_eq_true, if_true, if_false, ite_not]
    rfl
  · rename_i c hx
    obtain ⟨hc, rfl, -⟩ := ix_some (by omega) hx
    rw [c_isIn_s (by omega) hx]
    simp (decide := true) (disch := omega) only [bq_149_8, rq_149_11, Option.bind_some, xasI, xasL, xasR, xin_t, cond_true, cond_false, nI_clamp, k_0, k_1, k_2, k_3, k_4, k_5, k_6, k_40, k_60, k_500, k_10000, pk_mul, nI_add, nI_e0, nI_ee, nI_leI, nI_ltI, xbool0, xbool1, xbn0, xbn1, xb_0, xb_1, reduceIte, one0, Option.isNone_none, ne_eq, not_true_eq_false, not_false_eq_true, if_true, if_false, ite_not]
    rw [(h46 c (by omega)).1]
    split at h
    · rename_i hy
      rw [c_isIn_n hy]
      simp (decide := true) (disch := omega) only [bq_149_21, bq_149_28, bq_149_29, Option.bind_some, xasI, xasL, xasR, xin_t, cond_true, cond_false, nI_clamp, k_0, k_1, k_2, k_3, k_4, k_5, k_6, k_40, k_60, k_500, k_10000, pk_mul, nI_add, nI_e0, nI_ee, nI_leI, nI_ltI, xbool0, xbool1, xbn0, xbn1, xb_0, xb_1, reduceIte, one0, Option.isNone_none, ne_eq, not_true_eq_false, not_false_eq_true, if_true, if_false, ite_not]
      rfl
    · cases h
/-- again -/
def gagain (q : xrho) (x y : Int32) : Int32 × xrho := match gcallO q x y with
  | none => (Int32.ofInt (-1), gref q 1)
  | some (c, n) => if nu q 82 0 = 1200 then (Int32.ofInt (-6), gref q 6) else (q.1 82 0, gsends q (nu q 82 0) c n (nu q 48 (60 * c + n)))
theorem c_again {T0 MI B : Nat} {q : xrho} {x y : Int32} {M : xM} (h45 : isN q 45 0 6) (h46 : ∀ c, c < 6 → isN q 46 c 60) (h82 : isN q 82 0 1200) (h48 : ∀ c n, c < 6 → n < nu q 46 c → isN q 48 (60 * c + n) 9999) : xZ T0 MI 150 0 [some (vr (some B)), some (vi x), some (vi y)] [] (rput B q M) = some (some (vi (gagain q x y).1), rput B (gagain q x y).2 M) := by
  unfold gagain
  cases h : gcallO q x y with
  | none =>
    rw [rq_150_0, c_isCall_n h45 h46 h]
    simp (decide := true) (disch := omega) only [bq_150_6, rq_150_9, bq_150_14, Option.bind_some, xasI, xasL, xasR, xin_t, cond_true, cond_false, nI_clamp, k_0, k_1, k_2, k_3, k_4, k_5, k_6, k_40, k_60, k_500, k_10000, pk_mul, nI_add, nI_e0, nI_ee, nI_leI, nI_ltI, xbool0, xbool1, xbn0, xbn1, xb_0, xb_1, reduceIte, one0, Option.isNone_none, ne_eq, not_true_eq_false, not_false_eq_true, if_true, if_false, ite_not, c_refuse (k := 1) (by decide) neg1]
  | some cn =>
    obtain ⟨c, n⟩ := cn
    rw [rq_150_0, c_isCall_s h45 h46 h]
    obtain ⟨hc, hn, rfl, rfl, -, hn2, -, -⟩ := gcallO_s h45 h46 h
    have b1 := h82.2
    have b2 := (h48 c n hc hn2).2
    rw [h82.1]
    simp (decide := true) (disch := omega) only [bq_150_6, rq_150_15, Option.bind_some, xasI, xasL, xasR, xin_t, cond_true, cond_false, nI_clamp, k_0, k_1, k_2, k_3, k_4, k_5, k_6, k_40, k_60, k_500, k_10000, pk_mul, nI_add, nI_e0, nI_ee, nI_leI, nI_ltI, xbool0, xbool1, xbn0, xbn1, xb_0, xb_1, reduceIte, one0, Option.isNone_none, ne_eq, not_true_eq_false, not_false_eq_true, if_true, if_false, ite_not, h82.1, k_1200]
    by_cases h0 : nu q 82 0 = 1200
    · simp (decide := true) (disch := omega) only [rq_150_25, bq_150_31, Option.bind_some, xasI, xasL, xasR, xin_t, cond_true, cond_false, nI_clamp, k_0, k_1, k_2, k_3, k_4, k_5, k_6, k_40, k_60, k_500, k_10000, pk_mul, nI_add, nI_e0, nI_ee, nI_leI, nI_ltI, xbool0, xbool1, xbn0, xbn1, xb_0, xb_1, reduceIte, one0, Option.isNone_none, ne_eq, not_true_eq_false, not_false_eq_true, if_true, if_false, ite_not, h0, c_refuse (k := 6) (by decide) neg6]
    · simp (decide := true) (disch := omega) only [rq_150_32, bq_150_38, Option.bind_some, xasI, xasL, xasR, xin_t, cond_true, cond_false, nI_clamp, k_0, k_1, k_2, k_3, k_4, k_5, k_6, k_40, k_60, k_500, k_10000, pk_mul, nI_add, nI_e0, nI_ee, nI_leI, nI_ltI, xbool0, xbool1, xbn0, xbn1, xb_0, xb_1, reduceIte, one0, Option.isNone_none, ne_eq, not_true_eq_false, not_false_eq_true, if_true, if_false, ite_not, h0, c_sends (l := nu q 82 0) (key := nu q 48 (60 * c + n)) (by omega) hc hn (by omega) h82.1 (h48 c n hc hn2).1]
