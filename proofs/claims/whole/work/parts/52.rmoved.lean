/-! THE REFERENCE'S moved, deliver -/
def gdnq (q : xrho) (r : Nat) (e : Int32) : xrho := rup (rup (rup (rup (rup (rup (rup (rup q 10 r (q.1 6 r)) 11 r (q.1 7 r)) 9 (4 * r) e) 9 (4 * r + 1) e) 6 r (q.1 7 r)) 5 r e) 7 r (Int32.ofInt (-1))) 13 0 (q.1 13 0 + nI 1)
def ggoq (q : xrho) (h r p : Nat) (e : Int32) : xrho := rup (rup (rup (rup (rup (rup (rup (rup q 15 p (nI 0)) 38 (nu q 44 0) (nI h)) 39 (nu q 44 0) (nI r)) 40 (nu q 44 0) (q.1 16 p)) 41 (nu q 44 0) (q.1 17 p)) 42 (nu q 44 0) e) 43 (nu q 44 0) (q.1 21 p)) 44 0 (nI (nu q 44 0 + 1))
def gbk (q : xrho) (k : Nat) (h r : Nat) (e : Int32) : xrho := gnew q (nu q 82 0) (nI k) (nI 0) (nI h) (nI r) e
def gset1 (q : xrho) (r k : Nat) (e : Int32) : xrho := if q.1 9 (4 * r + k) = e then rup q 9 (4 * r + k) (Int32.ofInt (-1)) else q
def gopen (q : xrho) (p : Nat) (e : Int32) : xrho := if q.1 15 p = nI 5 ∧ q.1 18 p = e then rup q 15 p (nI 1) else q
def gund (q : xrho) (p : Nat) (e : Int32) : xrho := if gown q p ∧ q.1 18 p = e - nI 1 then rup (rup q 15 p (nI 1)) 18 p (e + nI 1) else q
def gmvd (q : xrho) (k h r : Nat) (e : Int32) : xrho := match k with
  | 6 => if q.1 2 r = 0 ∨ q.1 7 r < 0 ∨ q.1 8 r ≠ e then q else gowedL (gowedL (gdnq q r e) r 0 (nu q 82 0)) r 1 (nu q 82 0 + 1)
  | 7 => if gown (gopen q (40 * h + r) e) (40 * h + r) ∧ (gopen q (40 * h + r) e).1 18 (40 * h + r) = e then gbk (gopen q (40 * h + r) e) 8 h r e else gopen q (40 * h + r) e
  | 9 => gbk (if q.1 15 (40 * h + r) = nI 3 ∧ q.1 18 (40 * h + r) + nI 1 = e then ggoq q h r (40 * h + r) e else q) 10 h r e
  | 11 => if gown (gund q (40 * h + r) e) (40 * h + r) ∧ ¬ (gund q (40 * h + r) e).1 18 (40 * h + r) < e + nI 1 then gbk (gund q (40 * h + r) e) 12 h r e else gund q (40 * h + r) e
  | 13 => gbk (if (q.1 15 (40 * h + r) = nI 4 ∨ q.1 15 (40 * h + r) = nI 5) ∧ q.1 18 (40 * h + r) = e then rup q 15 (40 * h + r) (nI 0) else q) 14 h r e
  | 8 => gset1 q r 0 e
  | 10 => gset1 q r 1 e
  | 12 => gset1 q r 2 e
  | _ => gset1 q r 3 e
theorem k_8 : Int32.ofInt 8 = nI 8 := rfl
theorem k_10 : Int32.ofInt 10 = nI 10 := rfl
theorem k_14 : Int32.ofInt 14 = nI 14 := rfl
theorem k_12 : Int32.ofInt 12 = nI 12 := rfl
theorem c_set1 {T0 MI B r k : Nat} {q : xrho} {M : xM} {e : Int32} {o1 o2 o4 o6 : Option xV} (hr : r < 40) (hk : k < 4) : xZ T0 MI 184 547 [some (vr (some B)), o1, o2, some (vi (nI r)), o4, some (vi e), o6] [vi (nI k)] (rput B q M) = some (none, rput B (gset1 q r k e) M) := by
  unfold gset1
  simp (decide := true) (disch := omega) only [rq_184_547, Option.bind_some, xasI, xasL, xasR, xin_t, cond_true, cond_false, nI_clamp, k_0, k_1, k_2, k_3, k_4, k_5, k_6, k_40, k_60, k_500, k_10000, pk_mul, nI_add, nI_e0, nI_ee, nI_leI, nI_ltI, xbool0, xbool1, xbn0, xbn1, xb_0, xb_1, reduceIte, one0, Option.isNone_none, ne_eq, not_true_eq_false, not_false_eq_true, if_true, if_false, ite_not, Bool.true_and, Bool.and_true]
  by_cases a : q.1 9 (4 * r + k) = e
  · rw [if_pos a, if_pos a]
    simp (decide := true) (disch := omega) only [rq_184_565, bq_184_577, Option.bind_some, xasI, xasL, xasR, xin_t, cond_true, cond_false, nI_clamp, k_0, k_1, k_2, k_3, k_4, k_5, k_6, k_40, k_60, k_500, k_10000, pk_mul, nI_add, nI_e0, nI_ee, nI_leI, nI_ltI, xbool0, xbool1, xbn0, xbn1, xb_0, xb_1, reduceIte, one0, Option.isNone_none, ne_eq, not_true_eq_false, not_false_eq_true, if_true, if_false, ite_not, Bool.true_and, Bool.and_true]
  · rw [if_neg a, if_neg a, bq_184_577]
theorem c_moved {T0 MI B l k h r : Nat} {q : xrho} {M : xM} {o5 o6 : Option xV} (hl : l < 1200) (hh : h < 6) (hr : r < 40) (h82 : isN q 82 0 1198) (h44 : isN q 44 0 1199) (hk : q.1 60 l = nI k) (hk6 : 6 ≤ k) (hk14 : k ≤ 14) : xZ T0 MI 184 0 [some (vr (some B)), some (vi (nI l)), some (vi (nI h)), some (vi (nI r)), some (vi (nI (40 * h + r))), o5, o6] [] (rput B q M) = some (none, rput B (gmvd q k h r (q.1 64 l)) M) := by
  have b82 := h82.2
  have b44 := h44.2
  have hp : 40 * h + r < 240 := by omega
  rw [rq_184_0]
  simp (decide := true) (disch := omega) only [Option.bind_some, xasI, xasL, xasR, xin_t, cond_true, cond_false, nI_clamp, k_0, k_1, k_2, k_3, k_4, k_5, k_6, k_40, k_60, k_500, k_10000, pk_mul, nI_add, nI_e0, nI_ee, nI_leI, nI_ltI, xbool0, xbool1, xbn0, xbn1, xb_0, xb_1, reduceIte, one0, Option.isNone_none, ne_eq, not_true_eq_false, not_false_eq_true, if_true, if_false, ite_not, Bool.true_and, Bool.and_true, hk]
  have bk : ∀ (z : xrho) (kk : Nat), z.1 82 0 = q.1 82 0 → xZ T0 MI 185 0 [some (vr (some B)), some (vi (nI kk)), some (vi (nI h)), some (vi (nI r)), some (vi (q.1 64 l)), none] [] (rput B z M) = some (none, rput B (gbk z kk h r (q.1 64 l)) M) := by
    intro z kk hz
    have e : nu z 82 0 = nu q 82 0 := by unfold nu; rw [hz]
    unfold gbk
    rw [e]
    exact c_back (by omega) (hz.trans h82.1)
  generalize hE : q.1 64 l = e at *
  match k, hk6, hk14, hk with
  | 6, _, _, hk =>
    rw [if_neg (by decide)]
    show xZ T0 MI 184 60 [some (vr (some B)), some (vi (nI l)), some (vi (nI h)), some (vi (nI r)), some (vi (nI (40 * h + r))), some (vi e), o6] [] (rput B q M) = _
    simp only [gmvd]
    simp (decide := true) (disch := omega) only [rq_184_60, Option.bind_some, xasI, xasL, xasR, xin_t, cond_true, cond_false, nI_clamp, k_0, k_1, k_2, k_3, k_4, k_5, k_6, k_40, k_60, k_500, k_10000, pk_mul, nI_add, nI_e0, nI_ee, nI_leI, nI_ltI, xbool0, xbool1, xbn0, xbn1, xb_0, xb_1, reduceIte, one0, Option.isNone_none, ne_eq, not_true_eq_false, not_false_eq_true, if_true, if_false, ite_not, Bool.true_and, Bool.and_true]
    by_cases a1 : q.1 2 r = 0
    · rw [if_pos a1, if_pos (Or.inl a1), bq_184_89]
    · rw [if_neg a1]
      simp (decide := true) (disch := omega) only [rq_184_69, Option.bind_some, xasI, xasL, xasR, xin_t, cond_true, cond_false, nI_clamp, k_0, k_1, k_2, k_3, k_4, k_5, k_6, k_40, k_60, k_500, k_10000, pk_mul, nI_add, nI_e0, nI_ee, nI_leI, nI_ltI, xbool0, xbool1, xbn0, xbn1, xb_0, xb_1, reduceIte, one0, Option.isNone_none, ne_eq, not_true_eq_false, not_false_eq_true, if_true, if_false, ite_not, Bool.true_and, Bool.and_true]
      by_cases a2 : q.1 7 r < 0
      · rw [if_pos a2, if_pos (Or.inr (Or.inl a2)), bq_184_89]
      · rw [if_neg a2]
        simp (decide := true) (disch := omega) only [rq_184_78, Option.bind_some, xasI, xasL, xasR, xin_t, cond_true, cond_false, nI_clamp, k_0, k_1, k_2, k_3, k_4, k_5, k_6, k_40, k_60, k_500, k_10000, pk_mul, nI_add, nI_e0, nI_ee, nI_leI, nI_ltI, xbool0, xbool1, xbn0, xbn1, xb_0, xb_1, reduceIte, one0, Option.isNone_none, ne_eq, not_true_eq_false, not_false_eq_true, if_true, if_false, ite_not, Bool.true_and, Bool.and_true]
        by_cases a3 : q.1 8 r = e
        · rw [if_pos a3, if_neg (fun h => h.elim a1 (fun h => h.elim a2 (fun h => h a3))), rq_184_90]
          simp (decide := true) (disch := omega) only [Option.bind_some, xasI, xasL, xasR, xin_t, cond_true, cond_false, nI_clamp, k_0, k_1, k_2, k_3, k_4, k_5, k_6, k_40, k_60, k_500, k_10000, pk_mul, nI_add, nI_e0, nI_ee, nI_leI, nI_ltI, xbool0, xbool1, xbn0, xbn1, xb_0, xb_1, reduceIte, one0, Option.isNone_none, ne_eq, not_true_eq_false, not_false_eq_true, if_true, if_false, ite_not, Bool.true_and, Bool.and_true, rup_ne]
          have e1 := c_sendsOwed (T0 := T0) (MI := MI) (B := B) (M := M) (q := gdnq q r e) (r := r) (k := 0) (n := nu q 82 0) (o3 := none) (o4 := none) hr (by omega) (by omega) h82.1
          have e2 := c_sendsOwed (T0 := T0) (MI := MI) (B := B) (M := M) (q := gowedL (gdnq q r e) r 0 (nu q 82 0)) (r := r) (k := 1) (n := nu q 82 0 + 1) (o3 := none) (o4 := none) hr (by omega) (by omega) (gowedL_82f _ _ _ _)
          show ((xZ T0 MI 157 0 [some (vr (some B)), some (vi (nI r)), some (vi (nI 0)), none, none] [] (rput B (gdnq q r e) M)).bind _) = _
          rw [e1]
          simp (decide := true) (disch := omega) only [rq_184_179, Option.bind_some, xasI, xasL, xasR, xin_t, cond_true, cond_false, nI_clamp, k_0, k_1, k_2, k_3, k_4, k_5, k_6, k_40, k_60, k_500, k_10000, pk_mul, nI_add, nI_e0, nI_ee, nI_leI, nI_ltI, xbool0, xbool1, xbn0, xbn1, xb_0, xb_1, reduceIte, one0, Option.isNone_none, ne_eq, not_true_eq_false, not_false_eq_true, if_true, if_false, ite_not, Bool.true_and, Bool.and_true]
          rw [e2]
          simp (decide := true) (disch := omega) only [bq_184_185, Option.bind_some, xasI, xasL, xasR, xin_t, cond_true, cond_false, nI_clamp, k_0, k_1, k_2, k_3, k_4, k_5, k_6, k_40, k_60, k_500, k_10000, pk_mul, nI_add, nI_e0, nI_ee, nI_leI, nI_ltI, xbool0, xbool1, xbn0, xbn1, xb_0, xb_1, reduceIte, one0, Option.isNone_none, ne_eq, not_true_eq_false, not_false_eq_true, if_true, if_false, ite_not, Bool.true_and, Bool.and_true]
        · rw [if_neg a3, if_pos (Or.inr (Or.inr a3)), bq_184_89]
  | 7, _, _, hk =>
    rw [if_neg (by decide)]
    show xZ T0 MI 184 186 [some (vr (some B)), some (vi (nI l)), some (vi (nI h)), some (vi (nI r)), some (vi (nI (40 * h + r))), some (vi e), o6] [] (rput B q M) = _
    simp only [gmvd]
    have s1 : xZ T0 MI 184 186 [some (vr (some B)), some (vi (nI l)), some (vi (nI h)), some (vi (nI r)), some (vi (nI (40 * h + r))), some (vi e), o6] [] (rput B q M) = xZ T0 MI 184 217 [some (vr (some B)), some (vi (nI l)), some (vi (nI h)), some (vi (nI r)), some (vi (nI (40 * h + r))), some (vi e), o6] [] (rput B (gopen q (40 * h + r) e) M) := by
      unfold gopen
      simp (decide := true) (disch := omega) only [rq_184_186, Option.bind_some, xasI, xasL, xasR, xin_t, cond_true, cond_false, nI_clamp, k_0, k_1, k_2, k_3, k_4, k_5, k_6, k_40, k_60, k_500, k_10000, pk_mul, nI_add, nI_e0, nI_ee, nI_leI, nI_ltI, xbool0, xbool1, xbn0, xbn1, xb_0, xb_1, reduceIte, one0, Option.isNone_none, ne_eq, not_true_eq_false, not_false_eq_true, if_true, if_false, ite_not, Bool.true_and, Bool.and_true]
      by_cases a1 : q.1 15 (40 * h + r) = nI 5
      · rw [if_pos a1]
        simp (decide := true) (disch := omega) only [rq_184_197, Option.bind_some, xasI, xasL, xasR, xin_t, cond_true, cond_false, nI_clamp, k_0, k_1, k_2, k_3, k_4, k_5, k_6, k_40, k_60, k_500, k_10000, pk_mul, nI_add, nI_e0, nI_ee, nI_leI, nI_ltI, xbool0, xbool1, xbn0, xbn1, xb_0, xb_1, reduceIte, one0, Option.isNone_none, ne_eq, not_true_eq_false, not_false_eq_true, if_true, if_false, ite_not, Bool.true_and, Bool.and_true]
        by_cases a2 : q.1 18 (40 * h + r) = e
        · rw [if_pos a2, if_pos ⟨a1, a2⟩]
          simp (decide := true) (disch := omega) only [rq_184_209, Option.bind_some, xasI, xasL, xasR, xin_t, cond_true, cond_false, nI_clamp, k_0, k_1, k_2, k_3, k_4, k_5, k_6, k_40, k_60, k_500, k_10000, pk_mul, nI_add, nI_e0, nI_ee, nI_leI, nI_ltI, xbool0, xbool1, xbn0, xbn1, xb_0, xb_1, reduceIte, one0, Option.isNone_none, ne_eq, not_true_eq_false, not_false_eq_true, if_true, if_false, ite_not, Bool.true_and, Bool.and_true]
        · rw [if_neg a2, if_neg (fun h => a2 h.2)]
      · rw [if_neg a1, if_neg (fun h => a1 h.1)]
    rw [s1, rq_184_217, c_isOpen hp]
    have z82 : (gopen q (40 * h + r) e).1 82 0 = q.1 82 0 := by
      unfold gopen
      split <;> rfl
    by_cases a3 : gown (gopen q (40 * h + r) e) (40 * h + r) ∧ (gopen q (40 * h + r) e).1 18 (40 * h + r) = e
    · rw [if_pos a3, if_pos a3]
      simp (decide := true) (disch := omega) only [bq_184_225, rq_184_228, Option.bind_some, xasI, xasL, xasR, xin_t, cond_true, cond_false, nI_clamp, k_0, k_1, k_2, k_3, k_4, k_5, k_6, k_40, k_60, k_500, k_10000, pk_mul, nI_add, nI_e0, nI_ee, nI_leI, nI_ltI, xbool0, xbool1, xbn0, xbn1, xb_0, xb_1, reduceIte, one0, Option.isNone_none, ne_eq, not_true_eq_false, not_false_eq_true, if_true, if_false, ite_not, Bool.true_and, Bool.and_true, k_8]
      rw [bk _ 8 z82]
      simp (decide := true) (disch := omega) only [bq_184_238, Option.bind_some, xasI, xasL, xasR, xin_t, cond_true, cond_false, nI_clamp, k_0, k_1, k_2, k_3, k_4, k_5, k_6, k_40, k_60, k_500, k_10000, pk_mul, nI_add, nI_e0, nI_ee, nI_leI, nI_ltI, xbool0, xbool1, xbn0, xbn1, xb_0, xb_1, reduceIte, one0, Option.isNone_none, ne_eq, not_true_eq_false, not_false_eq_true, if_true, if_false, ite_not, Bool.true_and, Bool.and_true]
    · rw [if_neg a3, if_neg a3]
      simp (decide := true) (disch := omega) only [bq_184_225, bq_184_238, Option.bind_some, xasI, xasL, xasR, xin_t, cond_true, cond_false, nI_clamp, k_0, k_1, k_2, k_3, k_4, k_5, k_6, k_40, k_60, k_500, k_10000, pk_mul, nI_add, nI_e0, nI_ee, nI_leI, nI_ltI, xbool0, xbool1, xbn0, xbn1, xb_0, xb_1, reduceIte, one0, Option.isNone_none, ne_eq, not_true_eq_false, not_false_eq_true, if_true, if_false, ite_not, Bool.true_and, Bool.and_true]
  | 9, _, _, hk =>
    rw [if_neg (by decide)]
    show xZ T0 MI 184 239 [some (vr (some B)), some (vi (nI l)), some (vi (nI h)), some (vi (nI r)), some (vi (nI (40 * h + r))), some (vi e), o6] [] (rput B q M) = _
    simp only [gmvd]
    have s1 : xZ T0 MI 184 239 [some (vr (some B)), some (vi (nI l)), some (vi (nI h)), some (vi (nI r)), some (vi (nI (40 * h + r))), some (vi e), o6] [] (rput B q M) = xZ T0 MI 184 361 [some (vr (some B)), some (vi (nI l)), some (vi (nI h)), some (vi (nI r)), some (vi (nI (40 * h + r))), some (vi e), o6] [] (rput B (if q.1 15 (40 * h + r) = nI 3 ∧ q.1 18 (40 * h + r) + nI 1 = e then ggoq q h r (40 * h + r) e else q) M) := by
      simp (decide := true) (disch := omega) only [rq_184_239, Option.bind_some, xasI, xasL, xasR, xin_t, cond_true, cond_false, nI_clamp, k_0, k_1, k_2, k_3, k_4, k_5, k_6, k_40, k_60, k_500, k_10000, pk_mul, nI_add, nI_e0, nI_ee, nI_leI, nI_ltI, xbool0, xbool1, xbn0, xbn1, xb_0, xb_1, reduceIte, one0, Option.isNone_none, ne_eq, not_true_eq_false, not_false_eq_true, if_true, if_false, ite_not, Bool.true_and, Bool.and_true]
      by_cases a1 : q.1 15 (40 * h + r) = nI 3
      · rw [if_pos a1]
        simp (decide := true) (disch := omega) only [rq_184_250, Option.bind_some, xasI, xasL, xasR, xin_t, cond_true, cond_false, nI_clamp, k_0, k_1, k_2, k_3, k_4, k_5, k_6, k_40, k_60, k_500, k_10000, pk_mul, nI_add, nI_e0, nI_ee, nI_leI, nI_ltI, xbool0, xbool1, xbn0, xbn1, xb_0, xb_1, reduceIte, one0, Option.isNone_none, ne_eq, not_true_eq_false, not_false_eq_true, if_true, if_false, ite_not, Bool.true_and, Bool.and_true]
        by_cases a2 : q.1 18 (40 * h + r) + nI 1 = e
        · rw [if_pos a2, if_pos ⟨a1, a2⟩, rq_184_264]
          simp (decide := true) (disch := omega) only [Option.bind_some, xasI, xasL, xasR, xin_t, cond_true, cond_false, nI_clamp, k_0, k_1, k_2, k_3, k_4, k_5, k_6, k_40, k_60, k_500, k_10000, pk_mul, nI_add, nI_e0, nI_ee, nI_leI, nI_ltI, xbool0, xbool1, xbn0, xbn1, xb_0, xb_1, reduceIte, one0, Option.isNone_none, ne_eq, not_true_eq_false, not_false_eq_true, if_true, if_false, ite_not, Bool.true_and, Bool.and_true, rup_ne, h44.1]
          rfl
        · rw [if_neg a2, if_neg (fun h => a2 h.2)]
      · rw [if_neg a1, if_neg (fun h => a1 h.1)]
    rw [s1]
    have z82 : (if q.1 15 (40 * h + r) = nI 3 ∧ q.1 18 (40 * h + r) + nI 1 = e then ggoq q h r (40 * h + r) e else q).1 82 0 = q.1 82 0 := by
      split <;> rfl
    simp (decide := true) (disch := omega) only [rq_184_361, Option.bind_some, xasI, xasL, xasR, xin_t, cond_true, cond_false, nI_clamp, k_0, k_1, k_2, k_3, k_4, k_5, k_6, k_40, k_60, k_500, k_10000, pk_mul, nI_add, nI_e0, nI_ee, nI_leI, nI_ltI, xbool0, xbool1, xbn0, xbn1, xb_0, xb_1, reduceIte, one0, Option.isNone_none, ne_eq, not_true_eq_false, not_false_eq_true, if_true, if_false, ite_not, Bool.true_and, Bool.and_true, k_10]
    rw [bk _ 10 z82]
    simp (decide := true) (disch := omega) only [bq_184_371, Option.bind_some, xasI, xasL, xasR, xin_t, cond_true, cond_false, nI_clamp, k_0, k_1, k_2, k_3, k_4, k_5, k_6, k_40, k_60, k_500, k_10000, pk_mul, nI_add, nI_e0, nI_ee, nI_leI, nI_ltI, xbool0, xbool1, xbn0, xbn1, xb_0, xb_1, reduceIte, one0, Option.isNone_none, ne_eq, not_true_eq_false, not_false_eq_true, if_true, if_false, ite_not, Bool.true_and, Bool.and_true]
  | 11, _, _, hk =>
    rw [if_neg (by decide)]
    show xZ T0 MI 184 372 [some (vr (some B)), some (vi (nI l)), some (vi (nI h)), some (vi (nI r)), some (vi (nI (40 * h + r))), some (vi e), o6] [] (rput B q M) = _
    simp only [gmvd]
    have s1 : xZ T0 MI 184 372 [some (vr (some B)), some (vi (nI l)), some (vi (nI h)), some (vi (nI r)), some (vi (nI (40 * h + r))), some (vi e), o6] [] (rput B q M) = xZ T0 MI 184 414 [some (vr (some B)), some (vi (nI l)), some (vi (nI h)), some (vi (nI r)), some (vi (nI (40 * h + r))), some (vi e), o6] [] (rput B (gund q (40 * h + r) e) M) := by
      unfold gund
      rw [rq_184_372, c_isOwn hp]
      by_cases a1 : gown q (40 * h + r)
      · rw [if_pos a1]
        simp (decide := true) (disch := omega) only [bq_184_378, rq_184_381, Option.bind_some, xasI, xasL, xasR, xin_t, cond_true, cond_false, nI_clamp, k_0, k_1, k_2, k_3, k_4, k_5, k_6, k_40, k_60, k_500, k_10000, pk_mul, nI_add, nI_e0, nI_ee, nI_leI, nI_ltI, xbool0, xbool1, xbn0, xbn1, xb_0, xb_1, reduceIte, one0, Option.isNone_none, ne_eq, not_true_eq_false, not_false_eq_true, if_true, if_false, ite_not, Bool.true_and, Bool.and_true]
        by_cases a2 : q.1 18 (40 * h + r) = e - nI 1
        · rw [if_pos a2, if_pos ⟨a1, a2⟩]
          simp (decide := true) (disch := omega) only [rq_184_395, Option.bind_some, xasI, xasL, xasR, xin_t, cond_true, cond_false, nI_clamp, k_0, k_1, k_2, k_3, k_4, k_5, k_6, k_40, k_60, k_500, k_10000, pk_mul, nI_add, nI_e0, nI_ee, nI_leI, nI_ltI, xbool0, xbool1, xbn0, xbn1, xb_0, xb_1, reduceIte, one0, Option.isNone_none, ne_eq, not_true_eq_false, not_false_eq_true, if_true, if_false, ite_not, Bool.true_and, Bool.and_true]
        · rw [if_neg a2, if_neg (fun h => a2 h.2)]
      · rw [if_neg a1, if_neg (fun h => a1 h.1)]
        simp (decide := true) (disch := omega) only [bq_184_378, Option.bind_some, xasI, xasL, xasR, xin_t, cond_true, cond_false, nI_clamp, k_0, k_1, k_2, k_3, k_4, k_5, k_6, k_40, k_60, k_500, k_10000, pk_mul, nI_add, nI_e0, nI_ee, nI_leI, nI_ltI, xbool0, xbool1, xbn0, xbn1, xb_0, xb_1, reduceIte, one0, Option.isNone_none, ne_eq, not_true_eq_false, not_false_eq_true, if_true, if_false, ite_not, Bool.true_and, Bool.and_true]
    rw [s1, rq_184_414, c_isOwn hp]
    have z82 : (gund q (40 * h + r) e).1 82 0 = q.1 82 0 := by
      unfold gund
      split <;> rfl
    by_cases a3 : gown (gund q (40 * h + r) e) (40 * h + r)
    · rw [if_pos a3]
      simp (decide := true) (disch := omega) only [bq_184_420, rq_184_423, Option.bind_some, xasI, xasL, xasR, xin_t, cond_true, cond_false, nI_clamp, k_0, k_1, k_2, k_3, k_4, k_5, k_6, k_40, k_60, k_500, k_10000, pk_mul, nI_add, nI_e0, nI_ee, nI_leI, nI_ltI, xbool0, xbool1, xbn0, xbn1, xb_0, xb_1, reduceIte, one0, Option.isNone_none, ne_eq, not_true_eq_false, not_false_eq_true, if_true, if_false, ite_not, Bool.true_and, Bool.and_true]
      by_cases a4 : (gund q (40 * h + r) e).1 18 (40 * h + r) < e + nI 1
      · rw [if_pos a4, if_neg (fun h => h.2 a4), bq_184_447]
      · rw [if_neg a4, if_pos ⟨a3, a4⟩]
        simp (decide := true) (disch := omega) only [rq_184_437, Option.bind_some, xasI, xasL, xasR, xin_t, cond_true, cond_false, nI_clamp, k_0, k_1, k_2, k_3, k_4, k_5, k_6, k_40, k_60, k_500, k_10000, pk_mul, nI_add, nI_e0, nI_ee, nI_leI, nI_ltI, xbool0, xbool1, xbn0, xbn1, xb_0, xb_1, reduceIte, one0, Option.isNone_none, ne_eq, not_true_eq_false, not_false_eq_true, if_true, if_false, ite_not, Bool.true_and, Bool.and_true, k_12]
        rw [bk _ 12 z82]
        simp (decide := true) (disch := omega) only [bq_184_447, Option.bind_some, xasI, xasL, xasR, xin_t, cond_true, cond_false, nI_clamp, k_0, k_1, k_2, k_3, k_4, k_5, k_6, k_40, k_60, k_500, k_10000, pk_mul, nI_add, nI_e0, nI_ee, nI_leI, nI_ltI, xbool0, xbool1, xbn0, xbn1, xb_0, xb_1, reduceIte, one0, Option.isNone_none, ne_eq, not_true_eq_false, not_false_eq_true, if_true, if_false, ite_not, Bool.true_and, Bool.and_true]
    · rw [if_neg a3, if_neg (fun h => a3 h.1)]
      simp (decide := true) (disch := omega) only [bq_184_420, bq_184_447, Option.bind_some, xasI, xasL, xasR, xin_t, cond_true, cond_false, nI_clamp, k_0, k_1, k_2, k_3, k_4, k_5, k_6, k_40, k_60, k_500, k_10000, pk_mul, nI_add, nI_e0, nI_ee, nI_leI, nI_ltI, xbool0, xbool1, xbn0, xbn1, xb_0, xb_1, reduceIte, one0, Option.isNone_none, ne_eq, not_true_eq_false, not_false_eq_true, if_true, if_false, ite_not, Bool.true_and, Bool.and_true]
  | 13, _, _, hk =>
    rw [if_neg (by decide)]
    show xZ T0 MI 184 448 [some (vr (some B)), some (vi (nI l)), some (vi (nI h)), some (vi (nI r)), some (vi (nI (40 * h + r))), some (vi e), o6] [] (rput B q M) = _
    simp only [gmvd]
    have s2 : (q.1 15 (40 * h + r) = nI 4 ∨ q.1 15 (40 * h + r) = nI 5) → xZ T0 MI 184 470 [some (vr (some B)), some (vi (nI l)), some (vi (nI h)), some (vi (nI r)), some (vi (nI (40 * h + r))), some (vi e), o6] [] (rput B q M) = xZ T0 MI 184 490 [some (vr (some B)), some (vi (nI l)), some (vi (nI h)), some (vi (nI r)), some (vi (nI (40 * h + r))), some (vi e), o6] [] (rput B (if (q.1 15 (40 * h + r) = nI 4 ∨ q.1 15 (40 * h + r) = nI 5) ∧ q.1 18 (40 * h + r) = e then rup q 15 (40 * h + r) (nI 0) else q) M) := by
      intro a1
      simp (decide := true) (disch := omega) only [rq_184_470, Option.bind_some, xasI, xasL, xasR, xin_t, cond_true, cond_false, nI_clamp, k_0, k_1, k_2, k_3, k_4, k_5, k_6, k_40, k_60, k_500, k_10000, pk_mul, nI_add, nI_e0, nI_ee, nI_leI, nI_ltI, xbool0, xbool1, xbn0, xbn1, xb_0, xb_1, reduceIte, one0, Option.isNone_none, ne_eq, not_true_eq_false, not_false_eq_true, if_true, if_false, ite_not, Bool.true_and, Bool.and_true]
      by_cases a2 : q.1 18 (40 * h + r) = e
      · rw [if_pos a2, if_pos ⟨a1, a2⟩]
        simp (decide := true) (disch := omega) only [rq_184_482, Option.bind_some, xasI, xasL, xasR, xin_t, cond_true, cond_false, nI_clamp, k_0, k_1, k_2, k_3, k_4, k_5, k_6, k_40, k_60, k_500, k_10000, pk_mul, nI_add, nI_e0, nI_ee, nI_leI, nI_ltI, xbool0, xbool1, xbn0, xbn1, xb_0, xb_1, reduceIte, one0, Option.isNone_none, ne_eq, not_true_eq_false, not_false_eq_true, if_true, if_false, ite_not, Bool.true_and, Bool.and_true]
      · rw [if_neg a2, if_neg (fun h => a2 h.2)]
    have s1 : xZ T0 MI 184 448 [some (vr (some B)), some (vi (nI l)), some (vi (nI h)), some (vi (nI r)), some (vi (nI (40 * h + r))), some (vi e), o6] [] (rput B q M) = xZ T0 MI 184 490 [some (vr (some B)), some (vi (nI l)), some (vi (nI h)), some (vi (nI r)), some (vi (nI (40 * h + r))), some (vi e), o6] [] (rput B (if (q.1 15 (40 * h + r) = nI 4 ∨ q.1 15 (40 * h + r) = nI 5) ∧ q.1 18 (40 * h + r) = e then rup q 15 (40 * h + r) (nI 0) else q) M) := by
      simp (decide := true) (disch := omega) only [rq_184_448, Option.bind_some, xasI, xasL, xasR, xin_t, cond_true, cond_false, nI_clamp, k_0, k_1, k_2, k_3, k_4, k_5, k_6, k_40, k_60, k_500, k_10000, pk_mul, nI_add, nI_e0, nI_ee, nI_leI, nI_ltI, xbool0, xbool1, xbn0, xbn1, xb_0, xb_1, reduceIte, one0, Option.isNone_none, ne_eq, not_true_eq_false, not_false_eq_true, if_true, if_false, ite_not, Bool.true_and, Bool.and_true]
      by_cases a1 : q.1 15 (40 * h + r) = nI 4
      · rw [if_pos a1, s2 (Or.inl a1)]
      · rw [if_neg a1]
        simp (decide := true) (disch := omega) only [rq_184_459, Option.bind_some, xasI, xasL, xasR, xin_t, cond_true, cond_false, nI_clamp, k_0, k_1, k_2, k_3, k_4, k_5, k_6, k_40, k_60, k_500, k_10000, pk_mul, nI_add, nI_e0, nI_ee, nI_leI, nI_ltI, xbool0, xbool1, xbn0, xbn1, xb_0, xb_1, reduceIte, one0, Option.isNone_none, ne_eq, not_true_eq_false, not_false_eq_true, if_true, if_false, ite_not, Bool.true_and, Bool.and_true]
        by_cases a2 : q.1 15 (40 * h + r) = nI 5
        · rw [if_pos a2, s2 (Or.inr a2)]
        · rw [if_neg a2, if_neg (fun h => h.1.elim a1 a2)]
    rw [s1]
    have z82 : (if (q.1 15 (40 * h + r) = nI 4 ∨ q.1 15 (40 * h + r) = nI 5) ∧ q.1 18 (40 * h + r) = e then rup q 15 (40 * h + r) (nI 0) else q).1 82 0 = q.1 82 0 := by
      split <;> rfl
    simp (decide := true) (disch := omega) only [rq_184_490, Option.bind_some, xasI, xasL, xasR, xin_t, cond_true, cond_false, nI_clamp, k_0, k_1, k_2, k_3, k_4, k_5, k_6, k_40, k_60, k_500, k_10000, pk_mul, nI_add, nI_e0, nI_ee, nI_leI, nI_ltI, xbool0, xbool1, xbn0, xbn1, xb_0, xb_1, reduceIte, one0, Option.isNone_none, ne_eq, not_true_eq_false, not_false_eq_true, if_true, if_false, ite_not, Bool.true_and, Bool.and_true, k_14]
    rw [bk _ 14 z82]
    simp (decide := true) (disch := omega) only [bq_184_500, Option.bind_some, xasI, xasL, xasR, xin_t, cond_true, cond_false, nI_clamp, k_0, k_1, k_2, k_3, k_4, k_5, k_6, k_40, k_60, k_500, k_10000, pk_mul, nI_add, nI_e0, nI_ee, nI_leI, nI_ltI, xbool0, xbool1, xbn0, xbn1, xb_0, xb_1, reduceIte, one0, Option.isNone_none, ne_eq, not_true_eq_false, not_false_eq_true, if_true, if_false, ite_not, Bool.true_and, Bool.and_true]
  | 8, _, _, hk =>
    rw [if_neg (by decide)]
    show xZ T0 MI 184 501 [some (vr (some B)), some (vi (nI l)), some (vi (nI h)), some (vi (nI r)), some (vi (nI (40 * h + r))), some (vi e), o6] [] (rput B q M) = _
    simp only [gmvd]
    simp (decide := true) (disch := omega) only [rq_184_501, Option.bind_some, xasI, xasL, xasR, xin_t, cond_true, cond_false, nI_clamp, k_0, k_1, k_2, k_3, k_4, k_5, k_6, k_40, k_60, k_500, k_10000, pk_mul, nI_add, nI_e0, nI_ee, nI_leI, nI_ltI, xbool0, xbool1, xbn0, xbn1, xb_0, xb_1, reduceIte, one0, Option.isNone_none, ne_eq, not_true_eq_false, not_false_eq_true, if_true, if_false, ite_not, Bool.true_and, Bool.and_true, hk, k_8]
    rw [bq_184_512, k_0, c_set1 hr (by omega)]
  | 10, _, _, hk =>
    rw [if_neg (by decide)]
    show xZ T0 MI 184 501 [some (vr (some B)), some (vi (nI l)), some (vi (nI h)), some (vi (nI r)), some (vi (nI (40 * h + r))), some (vi e), o6] [] (rput B q M) = _
    simp only [gmvd]
    simp (decide := true) (disch := omega) only [rq_184_501, rq_184_516, Option.bind_some, xasI, xasL, xasR, xin_t, cond_true, cond_false, nI_clamp, k_0, k_1, k_2, k_3, k_4, k_5, k_6, k_40, k_60, k_500, k_10000, pk_mul, nI_add, nI_e0, nI_ee, nI_leI, nI_ltI, xbool0, xbool1, xbn0, xbn1, xb_0, xb_1, reduceIte, one0, Option.isNone_none, ne_eq, not_true_eq_false, not_false_eq_true, if_true, if_false, ite_not, Bool.true_and, Bool.and_true, hk, k_8, k_10]
    rw [bq_184_527, k_1, c_set1 hr (by omega)]
  | 12, _, _, hk =>
    rw [if_neg (by decide)]
    show xZ T0 MI 184 501 [some (vr (some B)), some (vi (nI l)), some (vi (nI h)), some (vi (nI r)), some (vi (nI (40 * h + r))), some (vi e), o6] [] (rput B q M) = _
    simp only [gmvd]
    simp (decide := true) (disch := omega) only [rq_184_501, rq_184_516, rq_184_531, Option.bind_some, xasI, xasL, xasR, xin_t, cond_true, cond_false, nI_clamp, k_0, k_1, k_2, k_3, k_4, k_5, k_6, k_40, k_60, k_500, k_10000, pk_mul, nI_add, nI_e0, nI_ee, nI_leI, nI_ltI, xbool0, xbool1, xbn0, xbn1, xb_0, xb_1, reduceIte, one0, Option.isNone_none, ne_eq, not_true_eq_false, not_false_eq_true, if_true, if_false, ite_not, Bool.true_and, Bool.and_true, hk, k_8, k_10, k_12]
    rw [bq_184_542, k_2, c_set1 hr (by omega)]
  | 14, _, _, hk =>
    rw [if_pos (by decide)]
    simp only [gmvd]
    simp (decide := true) (disch := omega) only [rq_184_501, rq_184_516, rq_184_531, Option.bind_some, xasI, xasL, xasR, xin_t, cond_true, cond_false, nI_clamp, k_0, k_1, k_2, k_3, k_4, k_5, k_6, k_40, k_60, k_500, k_10000, pk_mul, nI_add, nI_e0, nI_ee, nI_leI, nI_ltI, xbool0, xbool1, xbn0, xbn1, xb_0, xb_1, reduceIte, one0, Option.isNone_none, ne_eq, not_true_eq_false, not_false_eq_true, if_true, if_false, ite_not, Bool.true_and, Bool.and_true, hk, k_8, k_10, k_12]
    rw [bq_184_546, k_3, c_set1 hr (by omega)]
