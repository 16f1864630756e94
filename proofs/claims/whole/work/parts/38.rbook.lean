/-! THE REFERENCE'S PUBLIC METHODS: move, undo -/
def grng (q : xrho) (x : Int32) : Option Nat := match ix x (nu q 12 0) with
  | none => none
  | some r => if q.1 2 r = 1 then some r else none
theorem grng_s {q : xrho} {x : Int32} {r : Nat} (h12 : isN q 12 0 40) (h : grng q x = some r) : r < nu q 12 0 ∧ r < 40 ∧ x = nI r ∧ q.1 2 r = 1 := by
  unfold grng at h
  have b := h12.2
  split at h
  · cases h
  · rename_i j hx
    split at h
    · cases h
      obtain ⟨h1, h2, -⟩ := ix_some (by omega) hx
      exact ⟨h1, by omega, h2, by assumption⟩
    · cases h
theorem c_isRangeO {T0 MI B : Nat} {q : xrho} {x : Int32} {M : xM} (h12 : isN q 12 0 40) (hb : ∀ r, r < 40 → xbool (q.1 2 r) = true) : xZ T0 MI 127 0 [some (vr (some B)), some (vi x)] [] (rput B q M) = some (some (vi (zI (grng q x).isSome)), rput B q M) := by
  rw [c_isRange h12.2 h12.1 hb]
  congr 4
  unfold grng
  cases hx : ix x (nu q 12 0) with
  | none =>
    rw [if_neg (fun h => ix_none hx h.1)]
    rfl
  | some r =>
    obtain ⟨h1, h2, h3⟩ := ix_some (by have := h12.2; omega) hx
    have e : x.toNatClampNeg = r := by rw [h2, nI_clamp (by have := h12.2; omega)]
    dsimp only
    rw [e]
    by_cases h4 : q.1 2 r = 1
    · rw [if_pos ⟨h3, h4⟩, if_pos h4]; rfl
    · rw [if_neg (fun h => h4 h.2), if_neg h4]; rfl
theorem c_isFreeT {T0 MI B r h : Nat} {q : xrho} {M : xM} (hr : r < 40) (hh : h < 6) (hq : q.1 6 r = nI h) : xZ T0 MI 130 0 [some (vr (some B)), some (vi (nI r))] [] (rput B q M) = some (some (vi (tI (gfree q r h))), rput B q M) := by
  obtain ⟨x, e, h1, h2⟩ := c_isFree (T0 := T0) (MI := MI) (B := B) (M := M) hr hh hq
  rw [e]
  by_cases hf : gfree q r h
  · rw [h1 hf, tI_t hf]
  · rw [h2 hf, tI_f hf]
theorem zI_t : zI true = 1 := rfl
theorem zI_f : zI false = 0 := rfl
noncomputable def gmove (q : xrho) (x y : Int32) : Int32 × xrho := match grng q x with
  | none => (Int32.ofInt (-1), gref q 1)
  | some r => match ix y 6 with
    | none => (Int32.ofInt (-1), gref q 1)
    | some h => if q.1 0 0 = 0 then (Int32.ofInt (-4), gref q 4) else if tI (gfree q r (nu q 6 r)) = 0 ∨ nu q 6 r = h then (Int32.ofInt (-5), gref q 5) else if nu q 82 0 = 1200 then (Int32.ofInt (-6), gref q 6) else (q.1 5 r + nI 1, gbeg (rup (rup q 7 r (nI h)) 8 r (q.1 5 r + nI 1)) (nu q 82 0) r)
theorem c_move {T0 MI B : Nat} {q : xrho} {x y : Int32} {M : xM} (h12 : isN q 12 0 40) (hb : ∀ r, r < 40 → xbool (q.1 2 r) = true) (h82 : isN q 82 0 1200) (h6 : ∀ r, r < 40 → isN q 6 r 5) : xZ T0 MI 155 0 [some (vr (some B)), some (vi x), some (vi y)] [] (rput B q M) = some (some (vi (gmove q x y).1), rput B (gmove q x y).2 M) := by
  unfold gmove
  have b3 := h82.2
  rw [rq_155_0, c_isRangeO h12 hb]
  cases hx : grng q x with
  | none => simp (decide := true) (disch := omega) only [bq_155_5, rq_155_17, bq_155_22, Option.bind_some, xasI, xasL, xasR, xin_t, cond_true, cond_false, nI_clamp, k_0, k_1, k_2, k_3, k_4, k_5, k_6, k_40, k_60, k_500, k_10000, pk_mul, nI_add, nI_e0, nI_ee, nI_leI, nI_ltI, xbool0, xbool1, xbn0, xbn1, xb_0, xb_1, reduceIte, one0, Option.isNone_none, ne_eq, not_true_eq_false, not_false_eq_true, if_true, if_false, ite_not, Option.isSome_none, zI_f, c_refuse (k := 1) (by decide) neg1]
  | some r =>
    obtain ⟨-, hr, rfl, -⟩ := grng_s h12 hx
    simp (decide := true) (disch := omega) only [bq_155_5, bq_155_8, Option.bind_some, xasI, xasL, xasR, xin_t, cond_true, cond_false, nI_clamp, k_0, k_1, k_2, k_3, k_4, k_5, k_6, k_40, k_60, k_500, k_10000, pk_mul, nI_add, nI_e0, nI_ee, nI_leI, nI_ltI, xbool0, xbool1, xbn0, xbn1, xb_0, xb_1, reduceIte, one0, Option.isNone_none, ne_eq, not_true_eq_false, not_false_eq_true, if_true, if_false, ite_not, Option.isSome_some, zI_t]
    cases hy : ix y 6 with
    | none =>
      rw [c_isIn_n hy]
      simp (decide := true) (disch := omega) only [bq_155_14, rq_155_17, bq_155_22, Option.bind_some, xasI, xasL, xasR, xin_t, cond_true, cond_false, nI_clamp, k_0, k_1, k_2, k_3, k_4, k_5, k_6, k_40, k_60, k_500, k_10000, pk_mul, nI_add, nI_e0, nI_ee, nI_leI, nI_ltI, xbool0, xbool1, xbn0, xbn1, xb_0, xb_1, reduceIte, one0, Option.isNone_none, ne_eq, not_true_eq_false, not_false_eq_true, if_true, if_false, ite_not, c_refuse (k := 1) (by decide) neg1]
    | some h =>
      obtain ⟨hh, rfl, -⟩ := ix_some (by omega) hy
      have b6 := (h6 r hr).2
      rw [c_isIn_s (by omega) hy]
      simp (decide := true) (disch := omega) only [bq_155_14, rq_155_23, Option.bind_some, xasI, xasL, xasR, xin_t, cond_true, cond_false, nI_clamp, k_0, k_1, k_2, k_3, k_4, k_5, k_6, k_40, k_60, k_500, k_10000, pk_mul, nI_add, nI_e0, nI_ee, nI_leI, nI_ltI, xbool0, xbool1, xbn0, xbn1, xb_0, xb_1, reduceIte, one0, Option.isNone_none, ne_eq, not_true_eq_false, not_false_eq_true, if_true, if_false, ite_not]
      by_cases h0 : q.1 0 0 = 0
      · rw [if_pos h0, if_pos h0]
        simp (decide := true) (disch := omega) only [rq_155_32, bq_155_38, Option.bind_some, xasI, xasL, xasR, xin_t, cond_true, cond_false, nI_clamp, k_0, k_1, k_2, k_3, k_4, k_5, k_6, k_40, k_60, k_500, k_10000, pk_mul, nI_add, nI_e0, nI_ee, nI_leI, nI_ltI, xbool0, xbool1, xbn0, xbn1, xb_0, xb_1, reduceIte, one0, Option.isNone_none, ne_eq, not_true_eq_false, not_false_eq_true, if_true, if_false, ite_not, c_refuse (k := 4) (by decide) neg4]
      · rw [if_neg h0, if_neg h0, rq_155_39, c_isFreeT hr (by omega) (h6 r hr).1]
        by_cases hf : gfree q r (nu q 6 r)
        · rw [tI_t hf]
          simp (decide := true) (disch := omega) only [bq_155_44, rq_155_47, Option.bind_some, xasI, xasL, xasR, xin_t, cond_true, cond_false, nI_clamp, k_0, k_1, k_2, k_3, k_4, k_5, k_6, k_40, k_60, k_500, k_10000, pk_mul, nI_add, nI_e0, nI_ee, nI_leI, nI_ltI, xbool0, xbool1, xbn0, xbn1, xb_0, xb_1, reduceIte, one0, Option.isNone_none, ne_eq, not_true_eq_false, not_false_eq_true, if_true, if_false, ite_not, (h6 r hr).1]
          by_cases h1 : nu q 6 r = h
          · rw [if_pos h1, if_pos (Or.inr h1)]
            simp (decide := true) (disch := omega) only [rq_155_57, bq_155_63, Option.bind_some, xasI, xasL, xasR, xin_t, cond_true, cond_false, nI_clamp, k_0, k_1, k_2, k_3, k_4, k_5, k_6, k_40, k_60, k_500, k_10000, pk_mul, nI_add, nI_e0, nI_ee, nI_leI, nI_ltI, xbool0, xbool1, xbn0, xbn1, xb_0, xb_1, reduceIte, one0, Option.isNone_none, ne_eq, not_true_eq_false, not_false_eq_true, if_true, if_false, ite_not, c_refuse (k := 5) (by decide) neg5]
          · rw [if_neg h1, if_neg (fun e => e.elim (fun e => absurd e (by decide)) h1)]
            simp (decide := true) (disch := omega) only [rq_155_64, Option.bind_some, xasI, xasL, xasR, xin_t, cond_true, cond_false, nI_clamp, k_0, k_1, k_2, k_3, k_4, k_5, k_6, k_40, k_60, k_500, k_10000, pk_mul, nI_add, nI_e0, nI_ee, nI_leI, nI_ltI, xbool0, xbool1, xbn0, xbn1, xb_0, xb_1, reduceIte, one0, Option.isNone_none, ne_eq, not_true_eq_false, not_false_eq_true, if_true, if_false, ite_not, h82.1, k_1200]
            by_cases h2 : nu q 82 0 = 1200
            · rw [if_pos h2, if_pos h2]
              simp (decide := true) (disch := omega) only [rq_155_74, bq_155_80, Option.bind_some, xasI, xasL, xasR, xin_t, cond_true, cond_false, nI_clamp, k_0, k_1, k_2, k_3, k_4, k_5, k_6, k_40, k_60, k_500, k_10000, pk_mul, nI_add, nI_e0, nI_ee, nI_leI, nI_ltI, xbool0, xbool1, xbn0, xbn1, xb_0, xb_1, reduceIte, one0, Option.isNone_none, ne_eq, not_true_eq_false, not_false_eq_true, if_true, if_false, ite_not, c_refuse (k := 6) (by decide) neg6]
            · rw [if_neg h2, if_neg h2]
              simp (decide := true) (disch := omega) only [rq_155_81, Option.bind_some, xasI, xasL, xasR, xin_t, cond_true, cond_false, nI_clamp, k_0, k_1, k_2, k_3, k_4, k_5, k_6, k_40, k_60, k_500, k_10000, pk_mul, nI_add, nI_e0, nI_ee, nI_leI, nI_ltI, xbool0, xbool1, xbn0, xbn1, xb_0, xb_1, reduceIte, one0, Option.isNone_none, ne_eq, not_true_eq_false, not_false_eq_true, if_true, if_false, ite_not]
              rw [show (rup q 7 r (nI h)).1 5 r = q.1 5 r from rfl, c_begins (q := rup (rup q 7 r (nI h)) 8 r (q.1 5 r + nI 1)) (l := nu q 82 0) (by omega) hr h82.1]
              simp (decide := true) (disch := omega) only [rq_155_107, Option.bind_some, xasI, xasL, xasR, xin_t, cond_true, cond_false, nI_clamp, k_0, k_1, k_2, k_3, k_4, k_5, k_6, k_40, k_60, k_500, k_10000, pk_mul, nI_add, nI_e0, nI_ee, nI_leI, nI_ltI, xbool0, xbool1, xbn0, xbn1, xb_0, xb_1, reduceIte, one0, Option.isNone_none, ne_eq, not_true_eq_false, not_false_eq_true, if_true, if_false, ite_not]
              congr 4
              show (gbeg (rup (rup q 7 r (nI h)) 8 r (q.1 5 r + nI 1)) (nu q 82 0) r).1 8 r = _
              show (rup (rup q 7 r (nI h)) 8 r (q.1 5 r + nI 1)).1 8 r = _
              rw [rup_at]
        · rw [tI_f hf, if_pos (Or.inl rfl)]
          simp (decide := true) (disch := omega) only [bq_155_44, rq_155_57, bq_155_63, Option.bind_some, xasI, xasL, xasR, xin_t, cond_true, cond_false, nI_clamp, k_0, k_1, k_2, k_3, k_4, k_5, k_6, k_40, k_60, k_500, k_10000, pk_mul, nI_add, nI_e0, nI_ee, nI_leI, nI_ltI, xbool0, xbool1, xbn0, xbn1, xb_0, xb_1, reduceIte, one0, Option.isNone_none, ne_eq, not_true_eq_false, not_false_eq_true, if_true, if_false, ite_not, c_refuse (k := 5) (by decide) neg5]
def gundoq (q : xrho) (r : Nat) : xrho := rup (rup (rup (rup (rup (rup (rup q 10 r (q.1 6 r)) 11 r (q.1 7 r)) 9 (4 * r + 2) (q.1 8 r)) 9 (4 * r + 3) (q.1 8 r)) 5 r (q.1 8 r + nI 1)) 7 r (Int32.ofInt (-1))) 14 0 (q.1 14 0 + nI 1)
def gundo (q : xrho) (x : Int32) : Int32 × xrho := match grng q x with
  | none => (Int32.ofInt (-1), gref q 1)
  | some r => if q.1 0 0 = 0 then (Int32.ofInt (-4), gref q 4) else if ¬ 0 ≤ q.1 7 r then (Int32.ofInt (-5), gref q 5) else if 1200 < nu q 82 0 + 2 then (Int32.ofInt (-6), gref q 6) else (q.1 8 r + nI 1, gowedL (gowedL (gundoq q r) r 2 (nu q 82 0)) r 3 (nu q 82 0 + 1))
theorem c_undo {T0 MI B : Nat} {q : xrho} {x : Int32} {M : xM} (h12 : isN q 12 0 40) (hb : ∀ r, r < 40 → xbool (q.1 2 r) = true) (h82 : isN q 82 0 1200) : xZ T0 MI 158 0 [some (vr (some B)), some (vi x)] [] (rput B q M) = some (some (vi (gundo q x).1), rput B (gundo q x).2 M) := by
  unfold gundo
  have b3 := h82.2
  rw [rq_158_0, c_isRangeO h12 hb]
  cases hx : grng q x with
  | none => simp (decide := true) (disch := omega) only [bq_158_5, rq_158_8, bq_158_13, Option.bind_some, xasI, xasL, xasR, xin_t, cond_true, cond_false, nI_clamp, k_0, k_1, k_2, k_3, k_4, k_5, k_6, k_40, k_60, k_500, k_10000, pk_mul, nI_add, nI_e0, nI_ee, nI_leI, nI_ltI, xbool0, xbool1, xbn0, xbn1, xb_0, xb_1, reduceIte, one0, Option.isNone_none, ne_eq, not_true_eq_false, not_false_eq_true, if_true, if_false, ite_not, Option.isSome_none, zI_f, c_refuse (k := 1) (by decide) neg1]
  | some r =>
    obtain ⟨-, hr, rfl, -⟩ := grng_s h12 hx
    simp (decide := true) (disch := omega) only [bq_158_5, rq_158_14, Option.bind_some, xasI, xasL, xasR, xin_t, cond_true, cond_false, nI_clamp, k_0, k_1, k_2, k_3, k_4, k_5, k_6, k_40, k_60, k_500, k_10000, pk_mul, nI_add, nI_e0, nI_ee, nI_leI, nI_ltI, xbool0, xbool1, xbn0, xbn1, xb_0, xb_1, reduceIte, one0, Option.isNone_none, ne_eq, not_true_eq_false, not_false_eq_true, if_true, if_false, ite_not, Option.isSome_some, zI_t]
    by_cases h0 : q.1 0 0 = 0
    · rw [if_pos h0, if_pos h0]
      simp (decide := true) (disch := omega) only [rq_158_23, bq_158_29, Option.bind_some, xasI, xasL, xasR, xin_t, cond_true, cond_false, nI_clamp, k_0, k_1, k_2, k_3, k_4, k_5, k_6, k_40, k_60, k_500, k_10000, pk_mul, nI_add, nI_e0, nI_ee, nI_leI, nI_ltI, xbool0, xbool1, xbn0, xbn1, xb_0, xb_1, reduceIte, one0, Option.isNone_none, ne_eq, not_true_eq_false, not_false_eq_true, if_true, if_false, ite_not, c_refuse (k := 4) (by decide) neg4]
    · rw [if_neg h0, if_neg h0]
      simp (decide := true) (disch := omega) only [rq_158_30, Option.bind_some, xasI, xasL, xasR, xin_t, cond_true, cond_false, nI_clamp, k_0, k_1, k_2, k_3, k_4, k_5, k_6, k_40, k_60, k_500, k_10000, pk_mul, nI_add, nI_e0, nI_ee, nI_leI, nI_ltI, xbool0, xbool1, xbn0, xbn1, xb_0, xb_1, reduceIte, one0, Option.isNone_none, ne_eq, not_true_eq_false, not_false_eq_true, if_true, if_false, ite_not]
      by_cases h1 : 0 ≤ q.1 7 r
      · rw [if_pos h1, if_pos h1]
        simp (decide := true) (disch := omega) only [rq_158_46, Option.bind_some, xasI, xasL, xasR, xin_t, cond_true, cond_false, nI_clamp, k_0, k_1, k_2, k_3, k_4, k_5, k_6, k_40, k_60, k_500, k_10000, pk_mul, nI_add, nI_e0, nI_ee, nI_leI, nI_ltI, xbool0, xbool1, xbn0, xbn1, xb_0, xb_1, reduceIte, one0, Option.isNone_none, ne_eq, not_true_eq_false, not_false_eq_true, if_true, if_false, ite_not, h82.1, k_1200]
        by_cases h2 : nu q 82 0 + 2 ≤ 1200
        · rw [if_pos h2, if_neg (by omega)]
          simp (decide := true) (disch := omega) only [rq_158_65, Option.bind_some, xasI, xasL, xasR, xin_t, cond_true, cond_false, nI_clamp, k_0, k_1, k_2, k_3, k_4, k_5, k_6, k_40, k_60, k_500, k_10000, pk_mul, nI_add, nI_e0, nI_ee, nI_leI, nI_ltI, xbool0, xbool1, xbn0, xbn1, xb_0, xb_1, reduceIte, one0, Option.isNone_none, ne_eq, not_true_eq_false, not_false_eq_true, if_true, if_false, ite_not]
          have e1 := c_sendsOwed (T0 := T0) (MI := MI) (B := B) (M := M) (q := gundoq q r) (r := r) (k := 2) (n := nu q 82 0) (o3 := none) (o4 := none) hr (by omega) (by omega) h82.1
          have e2 := c_sendsOwed (T0 := T0) (MI := MI) (B := B) (M := M) (q := gowedL (gundoq q r) r 2 (nu q 82 0)) (r := r) (k := 3) (n := nu q 82 0 + 1) (o3 := none) (o4 := none) hr (by omega) (by omega) (by unfold gowedL gnew; rw [rup_at])
          show ((xZ T0 MI 157 0 [some (vr (some B)), some (vi (nI r)), some (vi (nI 2)), none, none] [] (rput B (gundoq q r) M)).bind _) = _
          rw [e1]
          simp (decide := true) (disch := omega) only [rq_158_158, Option.bind_some, xasI, xasL, xasR, xin_t, cond_true, cond_false, nI_clamp, k_0, k_1, k_2, k_3, k_4, k_5, k_6, k_40, k_60, k_500, k_10000, pk_mul, nI_add, nI_e0, nI_ee, nI_leI, nI_ltI, xbool0, xbool1, xbn0, xbn1, xb_0, xb_1, reduceIte, one0, Option.isNone_none, ne_eq, not_true_eq_false, not_false_eq_true, if_true, if_false, ite_not]
          rw [e2]
          simp (decide := true) (disch := omega) only [rq_158_164, Option.bind_some, xasI, xasL, xasR, xin_t, cond_true, cond_false, nI_clamp, k_0, k_1, k_2, k_3, k_4, k_5, k_6, k_40, k_60, k_500, k_10000, pk_mul, nI_add, nI_e0, nI_ee, nI_leI, nI_ltI, xbool0, xbool1, xbn0, xbn1, xb_0, xb_1, reduceIte, one0, Option.isNone_none, ne_eq, not_true_eq_false, not_false_eq_true, if_true, if_false, ite_not]
          congr 4
          show (gundoq q r).1 5 r = _
          show (rup (rup (rup (rup (rup q 10 r (q.1 6 r)) 11 r (q.1 7 r)) 9 (4 * r + 2) (q.1 8 r)) 9 (4 * r + 3) (q.1 8 r)) 5 r (q.1 8 r + nI 1)).1 5 r = _
          rw [rup_at]
        · rw [if_neg h2, if_pos (by omega)]
          simp (decide := true) (disch := omega) only [rq_158_58, bq_158_64, Option.bind_some, xasI, xasL, xasR, xin_t, cond_true, cond_false, nI_clamp, k_0, k_1, k_2, k_3, k_4, k_5, k_6, k_40, k_60, k_500, k_10000, pk_mul, nI_add, nI_e0, nI_ee, nI_leI, nI_ltI, xbool0, xbool1, xbn0, xbn1, xb_0, xb_1, reduceIte, one0, Option.isNone_none, ne_eq, not_true_eq_false, not_false_eq_true, if_true, if_false, ite_not, c_refuse (k := 6) (by decide) neg6]
      · rw [if_neg h1, if_neg (fun e => h1 e)]
        simp (decide := true) (disch := omega) only [rq_158_39, bq_158_45, Option.bind_some, xasI, xasL, xasR, xin_t, cond_true, cond_false, nI_clamp, k_0, k_1, k_2, k_3, k_4, k_5, k_6, k_40, k_60, k_500, k_10000, pk_mul, nI_add, nI_e0, nI_ee, nI_leI, nI_ltI, xbool0, xbool1, xbn0, xbn1, xb_0, xb_1, reduceIte, one0, Option.isNone_none, ne_eq, not_true_eq_false, not_false_eq_true, if_true, if_false, ite_not, c_refuse (k := 5) (by decide) neg5]
