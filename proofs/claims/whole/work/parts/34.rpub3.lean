/-! THE REFERENCE'S PUBLIC METHODS: call, answer, learn, copy, move, undo -/
def gcallq (q : xrho) (c n : Nat) (kind key : Int32) (v w : Int64) : xrho := rup (rup (rupL (rupL (rup (rup q 47 (60 * c + n) kind) 48 (60 * c + n) key) 51 (60 * c + n) v) 52 (60 * c + n) w) 49 (60 * c + n) (Int32.ofInt (-9))) 46 c (nI (n + 1))
def gcall (q : xrho) (x kind key : Int32) (v w : Int64) : Int32 × xrho := match ix x (nu q 45 0) with
  | none => (Int32.ofInt (-1), gref q 1)
  | some c => match ix kind 5 with
    | none => (Int32.ofInt (-2), gref q 2)
    | some _ => match ix key 10000 with
      | none => (Int32.ofInt (-3), gref q 3)
      | some ke => if nu q 82 0 = 1200 ∨ nu q 46 c = 60 then (Int32.ofInt (-6), gref q 6) else (q.1 46 c, gsends (gcallq q c (nu q 46 c) kind key v w) (nu q 82 0) c (nu q 46 c) ke)
theorem c_call {T0 MI B : Nat} {q : xrho} {x kind key : Int32} {v w : Int64} {o5 o7 o8 o9 o10 : Option xV} {M : xM} (h45 : isN q 45 0 6) (h46 : ∀ c, c < 6 → isN q 46 c 60) (h82 : isN q 82 0 1200) : xZ T0 MI 148 0 [some (vr (some B)), some (vi x), some (vi kind), some (vi key), some (vl v), o5, some (vl w), o7, o8, o9, o10] [] (rput B q M) = some (some (vi (gcall q x kind key v w).1), rput B (gcall q x kind key v w).2 M) := by
  unfold gcall
  have b1 := h45.2
  have b3 := h82.2
  rw [rq_148_0, h45.1]
  cases hx : ix x (nu q 45 0) with
  | none =>
    rw [c_isIn_n hx]
    simp (decide := true) (disch := omega) only [bq_148_8, rq_148_11, bq_148_16, Option.bind_some, xasI, xasL, xasR, xin_t, cond_true, cond_false, nI_clamp, k_0, k_1, k_2, k_3, k_4, k_5, k_6, k_40, k_60, k_500, k_10000, pk_mul, nI_add, nI_e0, nI_ee, nI_leI, nI_ltI, xbool0, xbool1, xbn0, xbn1, xb_0, xb_1, reduceIte, one0, Option.isNone_none, ne_eq, not_true_eq_false, not_false_eq_true, if_true, if_false, ite_not, c_refuse (k := 1) (by decide) neg1]
  | some c =>
    obtain ⟨hc, rfl, -⟩ := ix_some (by omega) hx
    rw [c_isIn_s (by omega) hx]
    simp (decide := true) (disch := omega) only [bq_148_8, bq_148_17, Option.bind_some, xasI, xasL, xasR, xin_t, cond_true, cond_false, nI_clamp, k_0, k_1, k_2, k_3, k_4, k_5, k_6, k_40, k_60, k_500, k_10000, pk_mul, nI_add, nI_e0, nI_ee, nI_leI, nI_ltI, xbool0, xbool1, xbn0, xbn1, xb_0, xb_1, reduceIte, one0, Option.isNone_none, ne_eq, not_true_eq_false, not_false_eq_true, if_true, if_false, ite_not]
    cases hk : ix kind 5 with
    | none =>
      rw [c_isIn_n hk]
      simp (decide := true) (disch := omega) only [bq_148_22, rq_148_25, bq_148_31, Option.bind_some, xasI, xasL, xasR, xin_t, cond_true, cond_false, nI_clamp, k_0, k_1, k_2, k_3, k_4, k_5, k_6, k_40, k_60, k_500, k_10000, pk_mul, nI_add, nI_e0, nI_ee, nI_leI, nI_ltI, xbool0, xbool1, xbn0, xbn1, xb_0, xb_1, reduceIte, one0, Option.isNone_none, ne_eq, not_true_eq_false, not_false_eq_true, if_true, if_false, ite_not, c_refuse (k := 2) (by decide) neg2]
    | some kk =>
      rw [c_isIn_s (by omega) hk]
      simp (decide := true) (disch := omega) only [bq_148_22, bq_148_32, Option.bind_some, xasI, xasL, xasR, xin_t, cond_true, cond_false, nI_clamp, k_0, k_1, k_2, k_3, k_4, k_5, k_6, k_40, k_60, k_500, k_10000, pk_mul, nI_add, nI_e0, nI_ee, nI_leI, nI_ltI, xbool0, xbool1, xbn0, xbn1, xb_0, xb_1, reduceIte, one0, Option.isNone_none, ne_eq, not_true_eq_false, not_false_eq_true, if_true, if_false, ite_not]
      cases hy : ix key 10000 with
      | none =>
        rw [c_isIn_n hy]
        simp (decide := true) (disch := omega) only [bq_148_39, rq_148_42, bq_148_48, Option.bind_some, xasI, xasL, xasR, xin_t, cond_true, cond_false, nI_clamp, k_0, k_1, k_2, k_3, k_4, k_5, k_6, k_40, k_60, k_500, k_10000, pk_mul, nI_add, nI_e0, nI_ee, nI_leI, nI_ltI, xbool0, xbool1, xbn0, xbn1, xb_0, xb_1, reduceIte, one0, Option.isNone_none, ne_eq, not_true_eq_false, not_false_eq_true, if_true, if_false, ite_not, c_refuse (k := 3) (by decide) neg3]
      | some ke =>
        obtain ⟨hke, rfl, -⟩ := ix_some (by omega) hy
        have b2 := (h46 c (by omega)).2
        have e2 := (h46 c (by omega)).1
        rw [c_isIn_s (by omega) hy]
        simp (decide := true) (disch := omega) only [bq_148_39, rq_148_49, rq_148_59, Option.bind_some, xasI, xasL, xasR, xin_t, cond_true, cond_false, nI_clamp, k_0, k_1, k_2, k_3, k_4, k_5, k_6, k_40, k_60, k_500, k_10000, pk_mul, nI_add, nI_e0, nI_ee, nI_leI, nI_ltI, xbool0, xbool1, xbn0, xbn1, xb_0, xb_1, reduceIte, one0, Option.isNone_none, ne_eq, not_true_eq_false, not_false_eq_true, if_true, if_false, ite_not, k_1200, h82.1]
        by_cases h0 : nu q 82 0 = 1200
        · simp (decide := true) (disch := omega) only [rq_148_70, bq_148_76, Option.bind_some, xasI, xasL, xasR, xin_t, cond_true, cond_false, nI_clamp, k_0, k_1, k_2, k_3, k_4, k_5, k_6, k_40, k_60, k_500, k_10000, pk_mul, nI_add, nI_e0, nI_ee, nI_leI, nI_ltI, xbool0, xbool1, xbn0, xbn1, xb_0, xb_1, reduceIte, one0, Option.isNone_none, ne_eq, not_true_eq_false, not_false_eq_true, if_true, if_false, ite_not, h0, true_or, c_refuse (k := 6) (by decide) neg6]
        · rw [e2]
          by_cases h1 : nu q 46 c = 60
          · simp (decide := true) (disch := omega) only [rq_148_70, bq_148_76, Option.bind_some, xasI, xasL, xasR, xin_t, cond_true, cond_false, nI_clamp, k_0, k_1, k_2, k_3, k_4, k_5, k_6, k_40, k_60, k_500, k_10000, pk_mul, nI_add, nI_e0, nI_ee, nI_leI, nI_ltI, xbool0, xbool1, xbn0, xbn1, xb_0, xb_1, reduceIte, one0, Option.isNone_none, ne_eq, not_true_eq_false, not_false_eq_true, if_true, if_false, ite_not, h0, h1, or_true, c_refuse (k := 6) (by decide) neg6]
          · simp (decide := true) (disch := omega) only [rq_148_77, Option.bind_some, xasI, xasL, xasR, xin_t, cond_true, cond_false, nI_clamp, k_0, k_1, k_2, k_3, k_4, k_5, k_6, k_40, k_60, k_500, k_10000, pk_mul, nI_add, nI_e0, nI_ee, nI_leI, nI_ltI, xbool0, xbool1, xbn0, xbn1, xb_0, xb_1, reduceIte, one0, Option.isNone_none, ne_eq, not_true_eq_false, not_false_eq_true, if_true, if_false, ite_not, h0, h1, or_self, e2]
            rw [show ∀ q', rput B (rup (rup (rupL (rupL (rup (rup q' 47 (60 * c + nu q 46 c) kind) 48 (60 * c + nu q 46 c) (nI ke)) 51 (60 * c + nu q 46 c) v) 52 (60 * c + nu q 46 c) w) 49 (60 * c + nu q 46 c) (Int32.ofInt (-9))) 46 c ((rup (rupL (rupL (rup (rup q' 47 (60 * c + nu q 46 c) kind) 48 (60 * c + nu q 46 c) (nI ke)) 51 (60 * c + nu q 46 c) v) 52 (60 * c + nu q 46 c) w) 49 (60 * c + nu q 46 c) (Int32.ofInt (-9))).1 46 c + nI 1)) M = rput B (rup (rup (rupL (rupL (rup (rup q' 47 (60 * c + nu q 46 c) kind) 48 (60 * c + nu q 46 c) (nI ke)) 51 (60 * c + nu q 46 c) v) 52 (60 * c + nu q 46 c) w) 49 (60 * c + nu q 46 c) (Int32.ofInt (-9))) 46 c (q'.1 46 c + nI 1)) M from fun _ => rfl, e2, nI_add]
            have e3 := c_sends (T0 := T0) (MI := MI) (B := B) (o3 := none) (o4 := none) (o5 := none) (M := M) (q := gcallq q c (nu q 46 c) kind (nI ke) v w) (l := nu q 82 0) (key := ke) (c := c) (count := nu q 46 c) (by omega) (by omega) (by omega) hke h82.1 (by
              show (upd (q.1 48) (60 * c + nu q 46 c) (nI ke)) (60 * c + nu q 46 c) = nI ke
              simp [upd])
            unfold gcallq at e3
            rw [e3]
            simp (decide := true) (disch := omega) only [bq_148_154, Option.bind_some, xasI, xasL, xasR, xin_t, cond_true, cond_false, nI_clamp, k_0, k_1, k_2, k_3, k_4, k_5, k_6, k_40, k_60, k_500, k_10000, pk_mul, nI_add, nI_e0, nI_ee, nI_leI, nI_ltI, xbool0, xbool1, xbn0, xbn1, xb_0, xb_1, reduceIte, one0, Option.isNone_none, ne_eq, not_true_eq_false, not_false_eq_true, if_true, if_false, ite_not]
            rfl
def ganswer (q : xrho) (x y what : Int32) : Int64 := match gcallO q x y with
  | none => xcL 18446744073709551607
  | some (c, n) => gsw what (xcL 18446744073709551607) 0 [if q.1 54 (60 * c + n) = 0 then Int64.ofNat 0 else Int64.ofNat 1, q.2 53 (60 * c + n), (q.1 49 (60 * c + n)).toInt64, (q.1 48 (60 * c + n)).toInt64, (q.1 47 (60 * c + n)).toInt64, (q.1 50 (60 * c + n)).toInt64]
theorem c_answer {T0 MI B : Nat} {q : xrho} {x y what : Int32} {o4 : Option xV} {M : xM} (h45 : isN q 45 0 6) (h46 : ∀ c, c < 6 → isN q 46 c 60) : xZ T0 MI 151 0 [some (vr (some B)), some (vi x), some (vi y), some (vi what), o4] [] (rput B q M) = some (some (vl (ganswer q x y what)), rput B q M) := by
  unfold ganswer
  cases h : gcallO q x y with
  | none =>
    rw [rq_151_0, c_isCall_n h45 h46 h]
    simp (decide := true) (disch := omega) only [bq_151_6, bq_151_9, Option.bind_some, xasI, xasL, xasR, xin_t, cond_true, cond_false, nI_clamp, k_0, k_1, k_2, k_3, k_4, k_5, k_6, k_40, k_60, k_500, k_10000, pk_mul, nI_add, nI_e0, nI_ee, nI_leI, nI_ltI, xbool0, xbool1, xbn0, xbn1, xb_0, xb_1, reduceIte, one0, Option.isNone_none, ne_eq, not_true_eq_false, not_false_eq_true, if_true, if_false, ite_not]
  | some cn =>
    obtain ⟨c, n⟩ := cn
    rw [rq_151_0, c_isCall_s h45 h46 h]
    obtain ⟨hc, hn, rfl, rfl, -, hn2, -, -⟩ := gcallO_s h45 h46 h
    simp (decide := true) (disch := omega) only [bq_151_6, bq_151_13, Option.bind_some, xasI, xasL, xasR, xin_t, cond_true, cond_false, nI_clamp, k_0, k_1, k_2, k_3, k_4, k_5, k_6, k_40, k_60, k_500, k_10000, pk_mul, nI_add, nI_e0, nI_ee, nI_leI, nI_ltI, xbool0, xbool1, xbn0, xbn1, xb_0, xb_1, reduceIte, one0, Option.isNone_none, ne_eq, not_true_eq_false, not_false_eq_true, if_true, if_false, ite_not]
    rcases sw_cases what 5 (by decide) with ⟨h1, h2⟩ | ⟨k, hk, rfl⟩
    · rw [if_pos (show what.toInt < 0 ∨ (5 : Int) < what.toInt from h1), gsw_out (n := 5) (by simp) h2]
      simp (decide := true) (disch := omega) only [bq_151_120, Option.bind_some, xasI, xasL, xasR, xin_t, cond_true, cond_false, nI_clamp, k_0, k_1, k_2, k_3, k_4, k_5, k_6, k_40, k_60, k_500, k_10000, pk_mul, nI_add, nI_e0, nI_ee, nI_leI, nI_ltI, xbool0, xbool1, xbn0, xbn1, xb_0, xb_1, reduceIte, one0, Option.isNone_none, ne_eq, not_true_eq_false, not_false_eq_true, if_true, if_false, ite_not]
    · rw [if_neg (by rw [nI_toInt (by omega)]; omega), nI_toInt (by omega)]
      have hg := gsw_in (d := xcL 18446744073709551607) (r := [if q.1 54 (60 * c + n) = 0 then Int64.ofNat 0 else Int64.ofNat 1, q.2 53 (60 * c + n), (q.1 49 (60 * c + n)).toInt64, (q.1 48 (60 * c + n)).toInt64, (q.1 47 (60 * c + n)).toInt64, (q.1 50 (60 * c + n)).toInt64]) (k := 0) (j := k) (by simp) (by simp; omega)
      rw [Nat.zero_add] at hg
      rw [hg]
      match k, hk with
      | 0, _ =>
        show xZ T0 MI 151 60 _ _ _ = _
        simp (decide := true) (disch := omega) only [rq_151_60, bq_151_70, bq_151_74, bq_151_75, Option.bind_some, xasI, xasL, xasR, xin_t, cond_true, cond_false, nI_clamp, k_0, k_1, k_2, k_3, k_4, k_5, k_6, k_40, k_60, k_500, k_10000, pk_mul, nI_add, nI_e0, nI_ee, nI_leI, nI_ltI, xbool0, xbool1, xbn0, xbn1, xb_0, xb_1, reduceIte, one0, Option.isNone_none, ne_eq, not_true_eq_false, not_false_eq_true, if_true, if_false, ite_not]
        by_cases h0 : q.1 54 (60 * c + n) = 0
        · rw [if_pos h0]; simp [h0]
        · rw [if_neg h0]; simp [h0]
      | 1, _ =>
        show xZ T0 MI 151 76 _ _ _ = _
        simp (decide := true) (disch := omega) only [rq_151_76, Option.bind_some, xasI, xasL, xasR, xin_t, cond_true, cond_false, nI_clamp, k_0, k_1, k_2, k_3, k_4, k_5, k_6, k_40, k_60, k_500, k_10000, pk_mul, nI_add, nI_e0, nI_ee, nI_leI, nI_ltI, xbool0, xbool1, xbn0, xbn1, xb_0, xb_1, reduceIte, one0, Option.isNone_none, ne_eq, not_true_eq_false, not_false_eq_true, if_true, if_false, ite_not]; rfl
      | 2, _ =>
        show xZ T0 MI 151 84 _ _ _ = _
        simp (decide := true) (disch := omega) only [rq_151_84, Option.bind_some, xasI, xasL, xasR, xin_t, cond_true, cond_false, nI_clamp, k_0, k_1, k_2, k_3, k_4, k_5, k_6, k_40, k_60, k_500, k_10000, pk_mul, nI_add, nI_e0, nI_ee, nI_leI, nI_ltI, xbool0, xbool1, xbn0, xbn1, xb_0, xb_1, reduceIte, one0, Option.isNone_none, ne_eq, not_true_eq_false, not_false_eq_true, if_true, if_false, ite_not]; rfl
      | 3, _ =>
        show xZ T0 MI 151 93 _ _ _ = _
        simp (decide := true) (disch := omega) only [rq_151_93, Option.bind_some, xasI, xasL, xasR, xin_t, cond_true, cond_false, nI_clamp, k_0, k_1, k_2, k_3, k_4, k_5, k_6, k_40, k_60, k_500, k_10000, pk_mul, nI_add, nI_e0, nI_ee, nI_leI, nI_ltI, xbool0, xbool1, xbn0, xbn1, xb_0, xb_1, reduceIte, one0, Option.isNone_none, ne_eq, not_true_eq_false, not_false_eq_true, if_true, if_false, ite_not]; rfl
      | 4, _ =>
        show xZ T0 MI 151 102 _ _ _ = _
        simp (decide := true) (disch := omega) only [rq_151_102, Option.bind_some, xasI, xasL, xasR, xin_t, cond_true, cond_false, nI_clamp, k_0, k_1, k_2, k_3, k_4, k_5, k_6, k_40, k_60, k_500, k_10000, pk_mul, nI_add, nI_e0, nI_ee, nI_leI, nI_ltI, xbool0, xbool1, xbn0, xbn1, xb_0, xb_1, reduceIte, one0, Option.isNone_none, ne_eq, not_true_eq_false, not_false_eq_true, if_true, if_false, ite_not]; rfl
      | 5, _ =>
        show xZ T0 MI 151 111 _ _ _ = _
        simp (decide := true) (disch := omega) only [rq_151_111, Option.bind_some, xasI, xasL, xasR, xin_t, cond_true, cond_false, nI_clamp, k_0, k_1, k_2, k_3, k_4, k_5, k_6, k_40, k_60, k_500, k_10000, pk_mul, nI_add, nI_e0, nI_ee, nI_leI, nI_ltI, xbool0, xbool1, xbn0, xbn1, xb_0, xb_1, reduceIte, one0, Option.isNone_none, ne_eq, not_true_eq_false, not_false_eq_true, if_true, if_false, ite_not]; rfl
def glearnP (q : xrho) (x : Int32) : Int32 × xrho := match ix x (nu q 45 0) with
  | none => (Int32.ofInt (-1), gref q 1)
  | some c => if q.1 0 0 = 0 then (Int32.ofInt (-4), gref q 4) else (nI (gthere (glearn c 0 (nu q 12 0) q) 0 (nu q 12 0)), glearn c 0 (nu q 12 0) q)
theorem c_learn {T0 MI B : Nat} {q : xrho} {x : Int32} {M : xM} (h45 : isN q 45 0 6) (h12 : isN q 12 0 40) (hs : ∀ r, r < nu q 12 0 → okSp q r) : xZ T0 MI 152 0 [some (vr (some B)), some (vi x)] [] (rput B q M) = some (some (vi (glearnP q x).1), rput B (glearnP q x).2 M) := by
  unfold glearnP
  have b1 := h45.2
  rw [rq_152_0, h45.1]
  cases hx : ix x (nu q 45 0) with
  | none =>
    rw [c_isIn_n hx]
    simp (decide := true) (disch := omega) only [bq_152_8, rq_152_11, bq_152_16, Option.bind_some, xasI, xasL, xasR, xin_t, cond_true, cond_false, nI_clamp, k_0, k_1, k_2, k_3, k_4, k_5, k_6, k_40, k_60, k_500, k_10000, pk_mul, nI_add, nI_e0, nI_ee, nI_leI, nI_ltI, xbool0, xbool1, xbn0, xbn1, xb_0, xb_1, reduceIte, one0, Option.isNone_none, ne_eq, not_true_eq_false, not_false_eq_true, if_true, if_false, ite_not, c_refuse (k := 1) (by decide) neg1]
  | some c =>
    obtain ⟨hc, rfl, -⟩ := ix_some (by omega) hx
    rw [c_isIn_s (by omega) hx]
    simp (decide := true) (disch := omega) only [bq_152_8, rq_152_17, Option.bind_some, xasI, xasL, xasR, xin_t, cond_true, cond_false, nI_clamp, k_0, k_1, k_2, k_3, k_4, k_5, k_6, k_40, k_60, k_500, k_10000, pk_mul, nI_add, nI_e0, nI_ee, nI_leI, nI_ltI, xbool0, xbool1, xbn0, xbn1, xb_0, xb_1, reduceIte, one0, Option.isNone_none, ne_eq, not_true_eq_false, not_false_eq_true, if_true, if_false, ite_not]
    by_cases h0 : q.1 0 0 = 0
    · rw [if_pos h0]
      simp (decide := true) (disch := omega) only [rq_152_26, bq_152_32, Option.bind_some, xasI, xasL, xasR, xin_t, cond_true, cond_false, nI_clamp, k_0, k_1, k_2, k_3, k_4, k_5, k_6, k_40, k_60, k_500, k_10000, pk_mul, nI_add, nI_e0, nI_ee, nI_leI, nI_ltI, xbool0, xbool1, xbn0, xbn1, xb_0, xb_1, reduceIte, one0, Option.isNone_none, ne_eq, not_true_eq_false, not_false_eq_true, if_true, if_false, ite_not, h0, c_refuse (k := 4) (by decide) neg4]
    · rw [if_neg h0]
      simp (decide := true) (disch := omega) only [rq_152_33, Option.bind_some, xasI, xasL, xasR, xin_t, cond_true, cond_false, nI_clamp, k_0, k_1, k_2, k_3, k_4, k_5, k_6, k_40, k_60, k_500, k_10000, pk_mul, nI_add, nI_e0, nI_ee, nI_leI, nI_ltI, xbool0, xbool1, xbn0, xbn1, xb_0, xb_1, reduceIte, one0, Option.isNone_none, ne_eq, not_true_eq_false, not_false_eq_true, if_true, if_false, ite_not, h0, c_learns (c := c) (by omega) h12.2 h12.1 hs]
      rw [rq_152_38, c_rangesThere h12.2 (by rw [glearn_ne _ (by decide)]; exact h12.1)]
      simp (decide := true) (disch := omega) only [bq_152_42, Option.bind_some, xasI, xasL, xasR, xin_t, cond_true, cond_false, nI_clamp, k_0, k_1, k_2, k_3, k_4, k_5, k_6, k_40, k_60, k_500, k_10000, pk_mul, nI_add, nI_e0, nI_ee, nI_leI, nI_ltI, xbool0, xbool1, xbn0, xbn1, xb_0, xb_1, reduceIte, one0, Option.isNone_none, ne_eq, not_true_eq_false, not_false_eq_true, if_true, if_false, ite_not]
def gcopyP (q : xrho) (x key what : Int32) : Int32 := match ix x (nu q 45 0) with
  | none => Int32.ofInt (-9)
  | some c => match ix key 10000 with
    | none => Int32.ofInt (-9)
    | some k => gsw what (Int32.ofInt (-9)) 0 [q.1 55 (10000 * c + k), q.1 56 (10000 * c + k), q.1 57 (10000 * c + k), q.1 58 (10000 * c + k), q.1 59 (10000 * c + k)]
theorem c_copy {T0 MI B : Nat} {q : xrho} {x key what : Int32} {o4 : Option xV} {M : xM} (h45 : isN q 45 0 6) : xZ T0 MI 154 0 [some (vr (some B)), some (vi x), some (vi key), some (vi what), o4] [] (rput B q M) = some (some (vi (gcopyP q x key what)), rput B q M) := by
  unfold gcopyP
  have b1 := h45.2
  rw [rq_154_0, h45.1]
  cases hx : ix x (nu q 45 0) with
  | none =>
    rw [c_isIn_n hx]
    simp (decide := true) (disch := omega) only [bq_154_8, bq_154_21, Option.bind_some, xasI, xasL, xasR, xin_t, cond_true, cond_false, nI_clamp, k_0, k_1, k_2, k_3, k_4, k_5, k_6, k_40, k_60, k_500, k_10000, pk_mul, nI_add, nI_e0, nI_ee, nI_leI, nI_ltI, xbool0, xbool1, xbn0, xbn1, xb_0, xb_1, reduceIte, one0, Option.isNone_none, ne_eq, not_true_eq_false, not_false_eq_true, if_true, if_false, ite_not]
  | some c =>
    obtain ⟨hc, rfl, -⟩ := ix_some (by omega) hx
    rw [c_isIn_s (by omega) hx]
    simp (decide := true) (disch := omega) only [bq_154_8, bq_154_11, Option.bind_some, xasI, xasL, xasR, xin_t, cond_true, cond_false, nI_clamp, k_0, k_1, k_2, k_3, k_4, k_5, k_6, k_40, k_60, k_500, k_10000, pk_mul, nI_add, nI_e0, nI_ee, nI_leI, nI_ltI, xbool0, xbool1, xbn0, xbn1, xb_0, xb_1, reduceIte, one0, Option.isNone_none, ne_eq, not_true_eq_false, not_false_eq_true, if_true, if_false, ite_not]
    cases hy : ix key 10000 with
    | none =>
      rw [c_isIn_n hy]
      simp (decide := true) (disch := omega) only [bq_154_18, bq_154_21, Option.bind_some, xasI, xasL, xasR, xin_t, cond_true, cond_false, nI_clamp, k_0, k_1, k_2, k_3, k_4, k_5, k_6, k_40, k_60, k_500, k_10000, pk_mul, nI_add, nI_e0, nI_ee, nI_leI, nI_ltI, xbool0, xbool1, xbn0, xbn1, xb_0, xb_1, reduceIte, one0, Option.isNone_none, ne_eq, not_true_eq_false, not_false_eq_true, if_true, if_false, ite_not]
    | some ke =>
      obtain ⟨hke, rfl, -⟩ := ix_some (by omega) hy
      rw [c_isIn_s (by omega) hy]
      simp (decide := true) (disch := omega) only [bq_154_18, bq_154_24, Option.bind_some, xasI, xasL, xasR, xin_t, cond_true, cond_false, nI_clamp, k_0, k_1, k_2, k_3, k_4, k_5, k_6, k_40, k_60, k_500, k_10000, pk_mul, nI_add, nI_e0, nI_ee, nI_leI, nI_ltI, xbool0, xbool1, xbn0, xbn1, xb_0, xb_1, reduceIte, one0, Option.isNone_none, ne_eq, not_true_eq_false, not_false_eq_true, if_true, if_false, ite_not]
      rcases sw_cases what 4 (by decide) with ⟨h1, h2⟩ | ⟨k, hk, rfl⟩
      · rw [if_pos (show what.toInt < 0 ∨ (4 : Int) < what.toInt from h1), gsw_out (n := 4) (by simp) h2]
        simp (decide := true) (disch := omega) only [bq_154_108, Option.bind_some, xasI, xasL, xasR, xin_t, cond_true, cond_false, nI_clamp, k_0, k_1, k_2, k_3, k_4, k_5, k_6, k_40, k_60, k_500, k_10000, pk_mul, nI_add, nI_e0, nI_ee, nI_leI, nI_ltI, xbool0, xbool1, xbn0, xbn1, xb_0, xb_1, reduceIte, one0, Option.isNone_none, ne_eq, not_true_eq_false, not_false_eq_true, if_true, if_false, ite_not]
      · rw [if_neg (by rw [nI_toInt (by omega)]; omega), nI_toInt (by omega)]
        have hg := gsw_in (d := Int32.ofInt (-9)) (r := [q.1 55 (10000 * c + ke), q.1 56 (10000 * c + ke), q.1 57 (10000 * c + ke), q.1 58 (10000 * c + ke), q.1 59 (10000 * c + ke)]) (k := 0) (j := k) (by simp) (by simp; omega)
        rw [Nat.zero_add] at hg
        rw [hg]
        match k, hk with
        | 0, _ =>
          show xZ T0 MI 154 68 _ _ _ = _
          simp (decide := true) (disch := omega) only [rq_154_68, Option.bind_some, xasI, xasL, xasR, xin_t, cond_true, cond_false, nI_clamp, k_0, k_1, k_2, k_3, k_4, k_5, k_6, k_40, k_60, k_500, k_10000, pk_mul, nI_add, nI_e0, nI_ee, nI_leI, nI_ltI, xbool0, xbool1, xbn0, xbn1, xb_0, xb_1, reduceIte, one0, Option.isNone_none, ne_eq, not_true_eq_false, not_false_eq_true, if_true, if_false, ite_not]; rfl
        | 1, _ =>
          show xZ T0 MI 154 76 _ _ _ = _
          simp (decide := true) (disch := omega) only [rq_154_76, Option.bind_some, xasI, xasL, xasR, xin_t, cond_true, cond_false, nI_clamp, k_0, k_1, k_2, k_3, k_4, k_5, k_6, k_40, k_60, k_500, k_10000, pk_mul, nI_add, nI_e0, nI_ee, nI_leI, nI_ltI, xbool0, xbool1, xbn0, xbn1, xb_0, xb_1, reduceIte, one0, Option.isNone_none, ne_eq, not_true_eq_false, not_false_eq_true, if_true, if_false, ite_not]; rfl
        | 2, _ =>
          show xZ T0 MI 154 84 _ _ _ = _
          simp (decide := true) (disch := omega) only [rq_154_84, Option.bind_some, xasI, xasL, xasR, xin_t, cond_true, cond_false, nI_clamp, k_0, k_1, k_2, k_3, k_4, k_5, k_6, k_40, k_60, k_500, k_10000, pk_mul, nI_add, nI_e0, nI_ee, nI_leI, nI_ltI, xbool0, xbool1, xbn0, xbn1, xb_0, xb_1, reduceIte, one0, Option.isNone_none, ne_eq, not_true_eq_false, not_false_eq_true, if_true, if_false, ite_not]; rfl
        | 3, _ =>
          show xZ T0 MI 154 92 _ _ _ = _
          simp (decide := true) (disch := omega) only [rq_154_92, Option.bind_some, xasI, xasL, xasR, xin_t, cond_true, cond_false, nI_clamp, k_0, k_1, k_2, k_3, k_4, k_5, k_6, k_40, k_60, k_500, k_10000, pk_mul, nI_add, nI_e0, nI_ee, nI_leI, nI_ltI, xbool0, xbool1, xbn0, xbn1, xb_0, xb_1, reduceIte, one0, Option.isNone_none, ne_eq, not_true_eq_false, not_false_eq_true, if_true, if_false, ite_not]; rfl
        | 4, _ =>
          show xZ T0 MI 154 100 _ _ _ = _
          simp (decide := true) (disch := omega) only [rq_154_100, Option.bind_some, xasI, xasL, xasR, xin_t, cond_true, cond_false, nI_clamp, k_0, k_1, k_2, k_3, k_4, k_5, k_6, k_40, k_60, k_500, k_10000, pk_mul, nI_add, nI_e0, nI_ee, nI_leI, nI_ltI, xbool0, xbool1, xbn0, xbn1, xb_0, xb_1, reduceIte, one0, Option.isNone_none, ne_eq, not_true_eq_false, not_false_eq_true, if_true, if_false, ite_not]; rfl
