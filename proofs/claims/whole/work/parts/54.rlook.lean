/-! THE REFERENCE'S fall, letter, range, at, row, order, status -/
def gfal (h : Nat) : Nat → Nat → xrho → Nat → xrho × Nat
  | _, 0, q, n => (q, n)
  | r, m + 1, q, n => if q.1 15 (40 * h + r) = nI 4 then gfal h (r + 1) m (rup q 15 (40 * h + r) (nI 0)) (n + 1) else gfal h (r + 1) m q n
theorem c_fall_l {T0 MI B h : Nat} {M : xM} (hh : h < 6) : ∀ m r, r + m = 40 → ∀ (q : xrho) (n : Nat), xZ T0 MI 187 42 [some (vr (some B)), some (vi (nI h)), some (vi (nI n)), some (vi (nI r))] [] (rput B q M) = some (some (vi (nI (gfal h r m q n).2)), rput B (gfal h r m q n).1 M) := by
  intro m
  induction m with
  | zero =>
    intro r hr q n
    rw [bq_187_42, if_pos (by rw [k_40, nI_leI (by omega) (by omega)]; omega), bq_187_85]
    rfl
  | succ m ih =>
    intro r hr q n
    rw [bq_187_42, if_neg (by rw [k_40, nI_leI (by omega) (by omega)]; omega)]
    unfold gfal
    simp (decide := true) (disch := omega) only [rq_187_48, rq_187_57, Option.bind_some, xasI, xasL, xasR, xin_t, cond_true, cond_false, nI_clamp, k_0, k_1, k_2, k_3, k_4, k_5, k_6, k_40, k_60, k_500, k_10000, pk_mul, nI_add, nI_e0, nI_ee, nI_leI, nI_ltI, xbool0, xbool1, xbn0, xbn1, xb_0, xb_1, reduceIte, one0, Option.isNone_none, ne_eq, not_true_eq_false, not_false_eq_true, if_true, if_false, ite_not, Bool.true_and, Bool.and_true, c_spot]
    by_cases e : q.1 15 (40 * h + r) = nI 4
    · rw [if_pos e, if_pos e]
      simp (decide := true) (disch := omega) only [rq_187_65, rq_187_74, bq_187_79, Option.bind_some, xasI, xasL, xasR, xin_t, cond_true, cond_false, nI_clamp, k_0, k_1, k_2, k_3, k_4, k_5, k_6, k_40, k_60, k_500, k_10000, pk_mul, nI_add, nI_e0, nI_ee, nI_leI, nI_ltI, xbool0, xbool1, xbn0, xbn1, xb_0, xb_1, reduceIte, one0, Option.isNone_none, ne_eq, not_true_eq_false, not_false_eq_true, if_true, if_false, ite_not, Bool.true_and, Bool.and_true, c_spot]
      exact ih (r + 1) (by omega) _ _
    · rw [if_neg e, if_neg e, bq_187_62, bq_187_79, nI_s]
      exact ih (r + 1) (by omega) _ _
def gfall (q : xrho) (x : Int32) : Int32 × xrho := match ix x 6 with
  | none => (Int32.ofInt (-1), gref q 1)
  | some h => if q.1 0 h = 0 then (Int32.ofInt (-4), gref q 4) else (nI (gfal h 0 40 (rup q 0 h (nI 0)) 0).2, (gfal h 0 40 (rup q 0 h (nI 0)) 0).1)
theorem c_fall {T0 MI B : Nat} {q : xrho} {x : Int32} {M : xM} {o2 o3 : Option xV} : xZ T0 MI 187 0 [some (vr (some B)), some (vi x), o2, o3] [] (rput B q M) = some (some (vi (gfall q x).1), rput B (gfall q x).2 M) := by
  unfold gfall
  rw [bq_187_0, k_6]
  cases hx : ix x 6 with
  | none =>
    rw [c_isIn_n hx]
    simp (decide := true) (disch := omega) only [bq_187_6, rq_187_9, bq_187_14, Option.bind_some, xasI, xasL, xasR, xin_t, cond_true, cond_false, nI_clamp, k_0, k_1, k_2, k_3, k_4, k_5, k_6, k_40, k_60, k_500, k_10000, pk_mul, nI_add, nI_e0, nI_ee, nI_leI, nI_ltI, xbool0, xbool1, xbn0, xbn1, xb_0, xb_1, reduceIte, one0, Option.isNone_none, ne_eq, not_true_eq_false, not_false_eq_true, if_true, if_false, ite_not, Bool.true_and, Bool.and_true, c_refuse (k := 1) (by decide) neg1]
  | some h =>
    obtain ⟨hh, rfl, -⟩ := ix_some (by omega) hx
    rw [c_isIn_s (by omega) hx]
    simp (decide := true) (disch := omega) only [bq_187_6, rq_187_15, Option.bind_some, xasI, xasL, xasR, xin_t, cond_true, cond_false, nI_clamp, k_0, k_1, k_2, k_3, k_4, k_5, k_6, k_40, k_60, k_500, k_10000, pk_mul, nI_add, nI_e0, nI_ee, nI_leI, nI_ltI, xbool0, xbool1, xbn0, xbn1, xb_0, xb_1, reduceIte, one0, Option.isNone_none, ne_eq, not_true_eq_false, not_false_eq_true, if_true, if_false, ite_not, Bool.true_and, Bool.and_true]
    by_cases a1 : q.1 0 h = 0
    · rw [if_pos a1, if_pos a1]
      simp (decide := true) (disch := omega) only [rq_187_24, bq_187_30, Option.bind_some, xasI, xasL, xasR, xin_t, cond_true, cond_false, nI_clamp, k_0, k_1, k_2, k_3, k_4, k_5, k_6, k_40, k_60, k_500, k_10000, pk_mul, nI_add, nI_e0, nI_ee, nI_leI, nI_ltI, xbool0, xbool1, xbn0, xbn1, xb_0, xb_1, reduceIte, one0, Option.isNone_none, ne_eq, not_true_eq_false, not_false_eq_true, if_true, if_false, ite_not, Bool.true_and, Bool.and_true, c_refuse (k := 4) (by decide) neg4]
    · rw [if_neg a1, if_neg a1]
      simp (decide := true) (disch := omega) only [rq_187_31, Option.bind_some, xasI, xasL, xasR, xin_t, cond_true, cond_false, nI_clamp, k_0, k_1, k_2, k_3, k_4, k_5, k_6, k_40, k_60, k_500, k_10000, pk_mul, nI_add, nI_e0, nI_ee, nI_leI, nI_ltI, xbool0, xbool1, xbn0, xbn1, xb_0, xb_1, reduceIte, one0, Option.isNone_none, ne_eq, not_true_eq_false, not_false_eq_true, if_true, if_false, ite_not, Bool.true_and, Bool.and_true]
      exact c_fall_l hh 40 0 (by omega) _ 0
def n9 : Int32 := Int32.ofInt (-9)
def gletter (q : xrho) (x what : Int32) : Int32 := match ix x (nu q 82 0) with
  | none => n9
  | some l => gsw what n9 0 [q.1 60 l, q.1 61 l, q.1 62 l, q.1 63 l, q.1 64 l, if q.1 75 l = 0 then nI 0 else nI 1, q.1 65 l, q.1 66 l, q.1 67 l, q.1 68 l, q.1 69 l]
theorem c_letter {T0 MI B : Nat} {q : xrho} {x what : Int32} {M : xM} (h82 : isN q 82 0 1200) : xZ T0 MI 189 0 [some (vr (some B)), some (vi x), some (vi what)] [] (rput B q M) = some (some (vi (gletter q x what)), rput B q M) := by
  have b := h82.2
  unfold gletter
  rw [rq_189_0, h82.1]
  cases hx : ix x (nu q 82 0) with
  | none =>
    rw [c_isIn_n hx]
    simp (decide := true) (disch := omega) only [bq_189_8, bq_189_11, Option.bind_some, xasI, xasL, xasR, xin_t, cond_true, cond_false, nI_clamp, k_0, k_1, k_2, k_3, k_4, k_5, k_6, k_40, k_60, k_500, k_10000, pk_mul, nI_add, nI_e0, nI_ee, nI_leI, nI_ltI, xbool0, xbool1, xbn0, xbn1, xb_0, xb_1, reduceIte, one0, Option.isNone_none, ne_eq, not_true_eq_false, not_false_eq_true, if_true, if_false, ite_not, Bool.true_and, Bool.and_true]
    rfl
  | some l =>
    obtain ⟨hl, rfl, -⟩ := ix_some (by omega) hx
    rw [c_isIn_s (by omega) hx]
    simp (decide := true) (disch := omega) only [bq_189_8, bq_189_14, Option.bind_some, xasI, xasL, xasR, xin_t, cond_true, cond_false, nI_clamp, k_0, k_1, k_2, k_3, k_4, k_5, k_6, k_40, k_60, k_500, k_10000, pk_mul, nI_add, nI_e0, nI_ee, nI_leI, nI_ltI, xbool0, xbool1, xbn0, xbn1, xb_0, xb_1, reduceIte, one0, Option.isNone_none, ne_eq, not_true_eq_false, not_false_eq_true, if_true, if_false, ite_not, Bool.true_and, Bool.and_true]
    rcases sw_cases what 10 (by decide) with ⟨h1, h2⟩ | ⟨k, hk, rfl⟩
    · rw [if_pos (show what.toInt < 0 ∨ (10 : Int) < what.toInt from h1), gsw_out (n := 10) (by simp) h2]
      simp (decide := true) (disch := omega) only [bq_189_157, Option.bind_some, xasI, xasL, xasR, xin_t, cond_true, cond_false, nI_clamp, k_0, k_1, k_2, k_3, k_4, k_5, k_6, k_40, k_60, k_500, k_10000, pk_mul, nI_add, nI_e0, nI_ee, nI_leI, nI_ltI, xbool0, xbool1, xbn0, xbn1, xb_0, xb_1, reduceIte, one0, Option.isNone_none, ne_eq, not_true_eq_false, not_false_eq_true, if_true, if_false, ite_not, Bool.true_and, Bool.and_true]
      rfl
    · rw [if_neg (by rw [nI_toInt (by omega)]; omega), nI_toInt (by omega)]
      have hg := gsw_in (d := n9) (r := [q.1 60 l, q.1 61 l, q.1 62 l, q.1 63 l, q.1 64 l, if q.1 75 l = 0 then nI 0 else nI 1, q.1 65 l, q.1 66 l, q.1 67 l, q.1 68 l, q.1 69 l]) (k := 0) (j := k) (by simp) (by simp; omega)
      rw [Nat.zero_add] at hg
      rw [hg]
      match k, hk with
      | 0, _ => show xZ T0 MI 189 72 _ _ _ = _; simp (decide := true) (disch := omega) only [rq_189_72, Option.bind_some, xasI, xasL, xasR, xin_t, cond_true, cond_false, nI_clamp, k_0, k_1, k_2, k_3, k_4, k_5, k_6, k_40, k_60, k_500, k_10000, pk_mul, nI_add, nI_e0, nI_ee, nI_leI, nI_ltI, xbool0, xbool1, xbn0, xbn1, xb_0, xb_1, reduceIte, one0, Option.isNone_none, ne_eq, not_true_eq_false, not_false_eq_true, if_true, if_false, ite_not, Bool.true_and, Bool.and_true]; rfl
      | 1, _ => show xZ T0 MI 189 79 _ _ _ = _; simp (decide := true) (disch := omega) only [rq_189_79, Option.bind_some, xasI, xasL, xasR, xin_t, cond_true, cond_false, nI_clamp, k_0, k_1, k_2, k_3, k_4, k_5, k_6, k_40, k_60, k_500, k_10000, pk_mul, nI_add, nI_e0, nI_ee, nI_leI, nI_ltI, xbool0, xbool1, xbn0, xbn1, xb_0, xb_1, reduceIte, one0, Option.isNone_none, ne_eq, not_true_eq_false, not_false_eq_true, if_true, if_false, ite_not, Bool.true_and, Bool.and_true]; rfl
      | 2, _ => show xZ T0 MI 189 86 _ _ _ = _; simp (decide := true) (disch := omega) only [rq_189_86, Option.bind_some, xasI, xasL, xasR, xin_t, cond_true, cond_false, nI_clamp, k_0, k_1, k_2, k_3, k_4, k_5, k_6, k_40, k_60, k_500, k_10000, pk_mul, nI_add, nI_e0, nI_ee, nI_leI, nI_ltI, xbool0, xbool1, xbn0, xbn1, xb_0, xb_1, reduceIte, one0, Option.isNone_none, ne_eq, not_true_eq_false, not_false_eq_true, if_true, if_false, ite_not, Bool.true_and, Bool.and_true]; rfl
      | 3, _ => show xZ T0 MI 189 93 _ _ _ = _; simp (decide := true) (disch := omega) only [rq_189_93, Option.bind_some, xasI, xasL, xasR, xin_t, cond_true, cond_false, nI_clamp, k_0, k_1, k_2, k_3, k_4, k_5, k_6, k_40, k_60, k_500, k_10000, pk_mul, nI_add, nI_e0, nI_ee, nI_leI, nI_ltI, xbool0, xbool1, xbn0, xbn1, xb_0, xb_1, reduceIte, one0, Option.isNone_none, ne_eq, not_true_eq_false, not_false_eq_true, if_true, if_false, ite_not, Bool.true_and, Bool.and_true]; rfl
      | 4, _ => show xZ T0 MI 189 100 _ _ _ = _; simp (decide := true) (disch := omega) only [rq_189_100, Option.bind_some, xasI, xasL, xasR, xin_t, cond_true, cond_false, nI_clamp, k_0, k_1, k_2, k_3, k_4, k_5, k_6, k_40, k_60, k_500, k_10000, pk_mul, nI_add, nI_e0, nI_ee, nI_leI, nI_ltI, xbool0, xbool1, xbn0, xbn1, xb_0, xb_1, reduceIte, one0, Option.isNone_none, ne_eq, not_true_eq_false, not_false_eq_true, if_true, if_false, ite_not, Bool.true_and, Bool.and_true]; rfl
      | 5, _ =>
        show xZ T0 MI 189 107 _ _ _ = some (some (vi (if q.1 75 l = 0 then nI 0 else nI 1)), _)
        simp (decide := true) (disch := omega) only [rq_189_107, Option.bind_some, xasI, xasL, xasR, xin_t, cond_true, cond_false, nI_clamp, k_0, k_1, k_2, k_3, k_4, k_5, k_6, k_40, k_60, k_500, k_10000, pk_mul, nI_add, nI_e0, nI_ee, nI_leI, nI_ltI, xbool0, xbool1, xbn0, xbn1, xb_0, xb_1, reduceIte, one0, Option.isNone_none, ne_eq, not_true_eq_false, not_false_eq_true, if_true, if_false, ite_not, Bool.true_and, Bool.and_true]
        by_cases h0 : q.1 75 l = 0
        · rw [if_pos h0, if_pos h0, bq_189_120, bq_189_121]; rfl
        · rw [if_neg h0, if_neg h0, bq_189_116, bq_189_121]; rfl
      | 6, _ => show xZ T0 MI 189 122 _ _ _ = _; simp (decide := true) (disch := omega) only [rq_189_122, Option.bind_some, xasI, xasL, xasR, xin_t, cond_true, cond_false, nI_clamp, k_0, k_1, k_2, k_3, k_4, k_5, k_6, k_40, k_60, k_500, k_10000, pk_mul, nI_add, nI_e0, nI_ee, nI_leI, nI_ltI, xbool0, xbool1, xbn0, xbn1, xb_0, xb_1, reduceIte, one0, Option.isNone_none, ne_eq, not_true_eq_false, not_false_eq_true, if_true, if_false, ite_not, Bool.true_and, Bool.and_true]; rfl
      | 7, _ => show xZ T0 MI 189 129 _ _ _ = _; simp (decide := true) (disch := omega) only [rq_189_129, Option.bind_some, xasI, xasL, xasR, xin_t, cond_true, cond_false, nI_clamp, k_0, k_1, k_2, k_3, k_4, k_5, k_6, k_40, k_60, k_500, k_10000, pk_mul, nI_add, nI_e0, nI_ee, nI_leI, nI_ltI, xbool0, xbool1, xbn0, xbn1, xb_0, xb_1, reduceIte, one0, Option.isNone_none, ne_eq, not_true_eq_false, not_false_eq_true, if_true, if_false, ite_not, Bool.true_and, Bool.and_true]; rfl
      | 8, _ => show xZ T0 MI 189 136 _ _ _ = _; simp (decide := true) (disch := omega) only [rq_189_136, Option.bind_some, xasI, xasL, xasR, xin_t, cond_true, cond_false, nI_clamp, k_0, k_1, k_2, k_3, k_4, k_5, k_6, k_40, k_60, k_500, k_10000, pk_mul, nI_add, nI_e0, nI_ee, nI_leI, nI_ltI, xbool0, xbool1, xbn0, xbn1, xb_0, xb_1, reduceIte, one0, Option.isNone_none, ne_eq, not_true_eq_false, not_false_eq_true, if_true, if_false, ite_not, Bool.true_and, Bool.and_true]; rfl
      | 9, _ => show xZ T0 MI 189 143 _ _ _ = _; simp (decide := true) (disch := omega) only [rq_189_143, Option.bind_some, xasI, xasL, xasR, xin_t, cond_true, cond_false, nI_clamp, k_0, k_1, k_2, k_3, k_4, k_5, k_6, k_40, k_60, k_500, k_10000, pk_mul, nI_add, nI_e0, nI_ee, nI_leI, nI_ltI, xbool0, xbool1, xbn0, xbn1, xb_0, xb_1, reduceIte, one0, Option.isNone_none, ne_eq, not_true_eq_false, not_false_eq_true, if_true, if_false, ite_not, Bool.true_and, Bool.and_true]; rfl
      | 10, _ => show xZ T0 MI 189 150 _ _ _ = _; simp (decide := true) (disch := omega) only [rq_189_150, Option.bind_some, xasI, xasL, xasR, xin_t, cond_true, cond_false, nI_clamp, k_0, k_1, k_2, k_3, k_4, k_5, k_6, k_40, k_60, k_500, k_10000, pk_mul, nI_add, nI_e0, nI_ee, nI_leI, nI_ltI, xbool0, xbool1, xbn0, xbn1, xb_0, xb_1, reduceIte, one0, Option.isNone_none, ne_eq, not_true_eq_false, not_false_eq_true, if_true, if_false, ite_not, Bool.true_and, Bool.and_true]; rfl
/-! range -/
def obit (q : xrho) (r k : Nat) : Nat := if q.1 9 (4 * r + k) < 0 then 0 else 2 ^ k
def obits (q : xrho) (r : Nat) : Nat := obit q r 0 + obit q r 1 + obit q r 2 + obit q r 3
theorem c_obit {T0 MI B r k k' a : Nat} {q : xrho} {M : xM} {o2 : Option xV} (hr : r < 40) (hk : k < 4) (hk' : k + 1 = k') : xZ T0 MI 190 110 [some (vr (some B)), some (vi (nI r)), o2, some (vi (nI a)), some (vi (nI k))] [] (rput B q M) = xZ T0 MI 190 110 [some (vr (some B)), some (vi (nI r)), xinv o2, some (vi (nI (a + obit q r k))), some (vi (nI k'))] [] (rput B q M) := by
  subst hk'
  rw [bq_190_110, if_neg (show ¬ (Int32.ofInt 4 ≤ nI k) by rw [k_4, nI_leI (by omega) (by omega)]; omega)]
  unfold obit
  simp (decide := true) (disch := omega) only [rq_190_116, Option.bind_some, xasI, xasL, xasR, xin_t, cond_true, cond_false, nI_clamp, k_0, k_1, k_2, k_3, k_4, k_5, k_6, k_40, k_60, k_500, k_10000, pk_mul, nI_add, nI_e0, nI_ee, nI_leI, nI_ltI, xbool0, xbool1, xbn0, xbn1, xb_0, xb_1, reduceIte, one0, Option.isNone_none, ne_eq, not_true_eq_false, not_false_eq_true, if_true, if_false, ite_not, Bool.true_and, Bool.and_true]
  by_cases e : q.1 9 (4 * r + k) < 0
  · rw [if_pos e, if_pos e]
    simp (decide := true) (disch := omega) only [bq_190_138, bq_190_139, Option.bind_some, xasI, xasL, xasR, xin_t, cond_true, cond_false, nI_clamp, k_0, k_1, k_2, k_3, k_4, k_5, k_6, k_40, k_60, k_500, k_10000, pk_mul, nI_add, nI_e0, nI_ee, nI_leI, nI_ltI, xbool0, xbool1, xbn0, xbn1, xb_0, xb_1, reduceIte, one0, Option.isNone_none, ne_eq, not_true_eq_false, not_false_eq_true, if_true, if_false, ite_not, Bool.true_and, Bool.and_true]
  · rw [if_neg e, if_neg e]
    have es : Int32.ofInt 1 <<< (nI k &&& 31) = nI (2 ^ k) := by
      rcases (show k = 0 ∨ k = 1 ∨ k = 2 ∨ k = 3 by omega) with rfl | rfl | rfl | rfl <;> decide
    rw [bq_190_131, es, bq_190_139, nI_s, nI_add]
noncomputable def grange (q : xrho) (x what : Int32) : Int32 := match grng q x with
  | none => n9
  | some r => gsw what n9 0 [q.1 3 r, q.1 4 r, q.1 5 r, q.1 6 r, if 0 ≤ q.1 7 r then q.1 7 r else n9, nI (obits q r), tI (gfree q r (nu q 6 r))]
theorem c_range {T0 MI B : Nat} {q : xrho} {x what : Int32} {M : xM} {o3 o4 : Option xV} (h12 : isN q 12 0 40) (hb : ∀ r, r < 40 → xbool (q.1 2 r) = true) (h6 : ∀ r, r < 40 → isN q 6 r 5) : xZ T0 MI 190 0 [some (vr (some B)), some (vi x), some (vi what), o3, o4] [] (rput B q M) = some (some (vi (grange q x what)), rput B q M) := by
  unfold grange
  rw [rq_190_0, c_isRangeO h12 hb]
  cases hx : grng q x with
  | none =>
    simp (decide := true) (disch := omega) only [bq_190_5, bq_190_8, Option.bind_some, xasI, xasL, xasR, xin_t, cond_true, cond_false, nI_clamp, k_0, k_1, k_2, k_3, k_4, k_5, k_6, k_40, k_60, k_500, k_10000, pk_mul, nI_add, nI_e0, nI_ee, nI_leI, nI_ltI, xbool0, xbool1, xbn0, xbn1, xb_0, xb_1, reduceIte, one0, Option.isNone_none, ne_eq, not_true_eq_false, not_false_eq_true, if_true, if_false, ite_not, Bool.true_and, Bool.and_true, Option.isSome_none, zI_f]
    rfl
  | some r =>
    obtain ⟨-, hr, rfl, -⟩ := grng_s h12 hx
    have b6 := (h6 r hr).2
    simp (decide := true) (disch := omega) only [bq_190_5, bq_190_11, Option.bind_some, xasI, xasL, xasR, xin_t, cond_true, cond_false, nI_clamp, k_0, k_1, k_2, k_3, k_4, k_5, k_6, k_40, k_60, k_500, k_10000, pk_mul, nI_add, nI_e0, nI_ee, nI_leI, nI_ltI, xbool0, xbool1, xbn0, xbn1, xb_0, xb_1, reduceIte, one0, Option.isNone_none, ne_eq, not_true_eq_false, not_false_eq_true, if_true, if_false, ite_not, Bool.true_and, Bool.and_true, Option.isSome_some, zI_t]
    rcases sw_cases what 6 (by decide) with ⟨h1, h2⟩ | ⟨k, hk, rfl⟩
    · rw [if_pos (show what.toInt < 0 ∨ (6 : Int) < what.toInt from h1), gsw_out (n := 6) (by simp) h2]
      simp (decide := true) (disch := omega) only [bq_190_163, Option.bind_some, xasI, xasL, xasR, xin_t, cond_true, cond_false, nI_clamp, k_0, k_1, k_2, k_3, k_4, k_5, k_6, k_40, k_60, k_500, k_10000, pk_mul, nI_add, nI_e0, nI_ee, nI_leI, nI_ltI, xbool0, xbool1, xbn0, xbn1, xb_0, xb_1, reduceIte, one0, Option.isNone_none, ne_eq, not_true_eq_false, not_false_eq_true, if_true, if_false, ite_not, Bool.true_and, Bool.and_true]
      rfl
    · rw [if_neg (by rw [nI_toInt (by omega)]; omega), nI_toInt (by omega)]
      have hg := gsw_in (d := n9) (r := [q.1 3 r, q.1 4 r, q.1 5 r, q.1 6 r, if 0 ≤ q.1 7 r then q.1 7 r else n9, nI (obits q r), tI (gfree q r (nu q 6 r))]) (k := 0) (j := k) (by simp) (by simp; omega)
      rw [Nat.zero_add] at hg
      rw [hg]
      match k, hk with
      | 0, _ => show xZ T0 MI 190 56 _ _ _ = _; simp (decide := true) (disch := omega) only [rq_190_56, Option.bind_some, xasI, xasL, xasR, xin_t, cond_true, cond_false, nI_clamp, k_0, k_1, k_2, k_3, k_4, k_5, k_6, k_40, k_60, k_500, k_10000, pk_mul, nI_add, nI_e0, nI_ee, nI_leI, nI_ltI, xbool0, xbool1, xbn0, xbn1, xb_0, xb_1, reduceIte, one0, Option.isNone_none, ne_eq, not_true_eq_false, not_false_eq_true, if_true, if_false, ite_not, Bool.true_and, Bool.and_true]; rfl
      | 1, _ => show xZ T0 MI 190 63 _ _ _ = _; simp (decide := true) (disch := omega) only [rq_190_63, Option.bind_some, xasI, xasL, xasR, xin_t, cond_true, cond_false, nI_clamp, k_0, k_1, k_2, k_3, k_4, k_5, k_6, k_40, k_60, k_500, k_10000, pk_mul, nI_add, nI_e0, nI_ee, nI_leI, nI_ltI, xbool0, xbool1, xbn0, xbn1, xb_0, xb_1, reduceIte, one0, Option.isNone_none, ne_eq, not_true_eq_false, not_false_eq_true, if_true, if_false, ite_not, Bool.true_and, Bool.and_true]; rfl
      | 2, _ => show xZ T0 MI 190 70 _ _ _ = _; simp (decide := true) (disch := omega) only [rq_190_70, Option.bind_some, xasI, xasL, xasR, xin_t, cond_true, cond_false, nI_clamp, k_0, k_1, k_2, k_3, k_4, k_5, k_6, k_40, k_60, k_500, k_10000, pk_mul, nI_add, nI_e0, nI_ee, nI_leI, nI_ltI, xbool0, xbool1, xbn0, xbn1, xb_0, xb_1, reduceIte, one0, Option.isNone_none, ne_eq, not_true_eq_false, not_false_eq_true, if_true, if_false, ite_not, Bool.true_and, Bool.and_true]; rfl
      | 3, _ => show xZ T0 MI 190 77 _ _ _ = _; simp (decide := true) (disch := omega) only [rq_190_77, Option.bind_some, xasI, xasL, xasR, xin_t, cond_true, cond_false, nI_clamp, k_0, k_1, k_2, k_3, k_4, k_5, k_6, k_40, k_60, k_500, k_10000, pk_mul, nI_add, nI_e0, nI_ee, nI_leI, nI_ltI, xbool0, xbool1, xbn0, xbn1, xb_0, xb_1, reduceIte, one0, Option.isNone_none, ne_eq, not_true_eq_false, not_false_eq_true, if_true, if_false, ite_not, Bool.true_and, Bool.and_true]; rfl
      | 4, _ =>
        show xZ T0 MI 190 84 _ _ _ = some (some (vi (if 0 ≤ q.1 7 r then q.1 7 r else n9)), _)
        simp (decide := true) (disch := omega) only [rq_190_84, Option.bind_some, xasI, xasL, xasR, xin_t, cond_true, cond_false, nI_clamp, k_0, k_1, k_2, k_3, k_4, k_5, k_6, k_40, k_60, k_500, k_10000, pk_mul, nI_add, nI_e0, nI_ee, nI_leI, nI_ltI, xbool0, xbool1, xbn0, xbn1, xb_0, xb_1, reduceIte, one0, Option.isNone_none, ne_eq, not_true_eq_false, not_false_eq_true, if_true, if_false, ite_not, Bool.true_and, Bool.and_true]
        by_cases h0 : 0 ≤ q.1 7 r
        · rw [if_pos h0, if_pos h0]
          simp (decide := true) (disch := omega) only [rq_190_98, bq_190_104, Option.bind_some, xasI, xasL, xasR, xin_t, cond_true, cond_false, nI_clamp, k_0, k_1, k_2, k_3, k_4, k_5, k_6, k_40, k_60, k_500, k_10000, pk_mul, nI_add, nI_e0, nI_ee, nI_leI, nI_ltI, xbool0, xbool1, xbn0, xbn1, xb_0, xb_1, reduceIte, one0, Option.isNone_none, ne_eq, not_true_eq_false, not_false_eq_true, if_true, if_false, ite_not, Bool.true_and, Bool.and_true]
        · rw [if_neg h0, if_neg h0, bq_190_93, bq_190_104]
          rfl
      | 5, _ =>
        show xZ T0 MI 190 105 _ _ _ = some (some (vi (nI (obits q r))), _)
        rw [bq_190_105, k_0, c_obit (k := 0) (k' := 1) hr (by omega) rfl, c_obit (k := 1) (k' := 2) hr (by omega) rfl, c_obit (k := 2) (k' := 3) hr (by omega) rfl, c_obit (k := 3) (k' := 4) hr (by omega) rfl, bq_190_110, if_pos (by decide), bq_190_147, Nat.zero_add]
        rfl
      | 6, _ =>
        show xZ T0 MI 190 149 _ _ _ = some (some (vi (tI (gfree q r (nu q 6 r)))), _)
        rw [rq_190_149, c_isFreeT hr (by omega) (h6 r hr).1]
        by_cases hf : gfree q r (nu q 6 r)
        · rw [tI_t hf]
          simp (decide := true) (disch := omega) only [bq_190_154, bq_190_157, bq_190_162, Option.bind_some, xasI, xasL, xasR, xin_t, cond_true, cond_false, nI_clamp, k_0, k_1, k_2, k_3, k_4, k_5, k_6, k_40, k_60, k_500, k_10000, pk_mul, nI_add, nI_e0, nI_ee, nI_leI, nI_ltI, xbool0, xbool1, xbn0, xbn1, xb_0, xb_1, reduceIte, one0, Option.isNone_none, ne_eq, not_true_eq_false, not_false_eq_true, if_true, if_false, ite_not, Bool.true_and, Bool.and_true]
          rfl
        · rw [tI_f hf]
          simp (decide := true) (disch := omega) only [bq_190_154, bq_190_161, bq_190_162, Option.bind_some, xasI, xasL, xasR, xin_t, cond_true, cond_false, nI_clamp, k_0, k_1, k_2, k_3, k_4, k_5, k_6, k_40, k_60, k_500, k_10000, pk_mul, nI_add, nI_e0, nI_ee, nI_leI, nI_ltI, xbool0, xbool1, xbn0, xbn1, xb_0, xb_1, reduceIte, one0, Option.isNone_none, ne_eq, not_true_eq_false, not_false_eq_true, if_true, if_false, ite_not, Bool.true_and, Bool.and_true]
          rfl
/-! at -/
def kts (K : Nat → KW) (p : Nat) : Nat := (K (6 * p)).length + (K (6 * p + 1)).length + (K (6 * p + 2)).length + (K (6 * p + 3)).length + (K (6 * p + 4)).length + (K (6 * p + 5)).length
abbrev mvs (q : xrho) (p : Nat) : Prop := q.1 15 p = nI 2 ∨ q.1 15 p = nI 3 ∨ q.1 15 p = nI 4
def gat (q : xrho) (L : xLs) (x y what : Int32) : Int32 := match ix x 6 with
  | none => n9
  | some h => match ix y (nu q 12 0) with
    | none => n9
    | some r => if what = 0 then q.1 15 (40 * h + r) else if q.1 15 (40 * h + r) = 0 then n9 else gsw what n9 0 [n9, q.1 18 (40 * h + r), nI (L.1 (40 * h + r)).length, q.1 16 (40 * h + r), q.1 17 (40 * h + r), if mvs q (40 * h + r) then q.1 22 (40 * h + r) else n9, if mvs q (40 * h + r) then q.1 23 (40 * h + r) else n9, if q.1 15 (40 * h + r) = nI 2 then nI (L.2.1 (40 * h + r)).length else n9, nI (kts L.2.2.1 (40 * h + r))]
theorem c_kt {T0 MI B p c c' a : Nat} {q : xrho} {L : xLs} {M : xM} {o1 o2 o3 o5 : Option xV} (h0 : LX q L) (hp : p < 240) (hc : c < 6) (hc' : c + 1 = c') : xZ T0 MI 191 219 [some (vr (some B)), o1, o2, o3, some (vi (nI p)), o5, some (vi (nI a)), some (vi (nI c))] [] (rput B q M) = xZ T0 MI 191 219 [some (vr (some B)), o1, o2, o3, some (vi (nI p)), xinv o5, some (vi (nI (a + (L.2.2.1 (6 * p + c)).length))), some (vi (nI c'))] [] (rput B q M) := by
  subst hc'
  have hK := h0.1.2.2 (6 * p + c) (by omega)
  rw [bq_191_219, if_neg (show ¬ (Int32.ofInt 6 ≤ nI c) by rw [k_6, nI_leI (by omega) (by omega)]; omega)]
  simp (decide := true) (disch := omega) only [rq_191_226, Option.bind_some, xasI, xasL, xasR, xin_t, cond_true, cond_false, nI_clamp, k_0, k_1, k_2, k_3, k_4, k_5, k_6, k_40, k_60, k_500, k_10000, pk_mul, nI_add, nI_e0, nI_ee, nI_leI, nI_ltI, xbool0, xbool1, xbn0, xbn1, xb_0, xb_1, reduceIte, one0, Option.isNone_none, ne_eq, not_true_eq_false, not_false_eq_true, if_true, if_false, ite_not, Bool.true_and, Bool.and_true, hK.1]
theorem c_at {T0 MI B : Nat} {q : xrho} {L : xLs} {x y what : Int32} {M : xM} {o4 o5 o6 o7 : Option xV} (h0 : LX q L) (h12 : isN q 12 0 40) : xZ T0 MI 191 0 [some (vr (some B)), some (vi x), some (vi y), some (vi what), o4, o5, o6, o7] [] (rput B q M) = some (some (vi (gat q L x y what)), rput B q M) := by
  have b12 := h12.2
  unfold gat
  rw [bq_191_0, k_6]
  cases hx : ix x 6 with
  | none =>
    rw [c_isIn_n hx]
    simp (decide := true) (disch := omega) only [bq_191_6, bq_191_20, Option.bind_some, xasI, xasL, xasR, xin_t, cond_true, cond_false, nI_clamp, k_0, k_1, k_2, k_3, k_4, k_5, k_6, k_40, k_60, k_500, k_10000, pk_mul, nI_add, nI_e0, nI_ee, nI_leI, nI_ltI, xbool0, xbool1, xbn0, xbn1, xb_0, xb_1, reduceIte, one0, Option.isNone_none, ne_eq, not_true_eq_false, not_false_eq_true, if_true, if_false, ite_not, Bool.true_and, Bool.and_true]
    rfl
  | some h =>
    obtain ⟨hh, rfl, -⟩ := ix_some (by omega) hx
    rw [c_isIn_s (by omega) hx]
    simp (decide := true) (disch := omega) only [bq_191_6, rq_191_9, Option.bind_some, xasI, xasL, xasR, xin_t, cond_true, cond_false, nI_clamp, k_0, k_1, k_2, k_3, k_4, k_5, k_6, k_40, k_60, k_500, k_10000, pk_mul, nI_add, nI_e0, nI_ee, nI_leI, nI_ltI, xbool0, xbool1, xbn0, xbn1, xb_0, xb_1, reduceIte, one0, Option.isNone_none, ne_eq, not_true_eq_false, not_false_eq_true, if_true, if_false, ite_not, Bool.true_and, Bool.and_true, h12.1]
    cases hy : ix y (nu q 12 0) with
    | none =>
      rw [c_isIn_n hy]
      simp (decide := true) (disch := omega) only [bq_191_17, bq_191_20, Option.bind_some, xasI, xasL, xasR, xin_t, cond_true, cond_false, nI_clamp, k_0, k_1, k_2, k_3, k_4, k_5, k_6, k_40, k_60, k_500, k_10000, pk_mul, nI_add, nI_e0, nI_ee, nI_leI, nI_ltI, xbool0, xbool1, xbn0, xbn1, xb_0, xb_1, reduceIte, one0, Option.isNone_none, ne_eq, not_true_eq_false, not_false_eq_true, if_true, if_false, ite_not, Bool.true_and, Bool.and_true]
      rfl
    | some r =>
      obtain ⟨hr, rfl, -⟩ := ix_some (by omega) hy
      rw [c_isIn_s (by omega) hy]
      have hp : 40 * h + r < 240 := by omega
      simp (decide := true) (disch := omega) only [bq_191_17, bq_191_23, rq_191_28, Option.bind_some, xasI, xasL, xasR, xin_t, cond_true, cond_false, nI_clamp, k_0, k_1, k_2, k_3, k_4, k_5, k_6, k_40, k_60, k_500, k_10000, pk_mul, nI_add, nI_e0, nI_ee, nI_leI, nI_ltI, xbool0, xbool1, xbn0, xbn1, xb_0, xb_1, reduceIte, one0, Option.isNone_none, ne_eq, not_true_eq_false, not_false_eq_true, if_true, if_false, ite_not, Bool.true_and, Bool.and_true, c_spot]
      by_cases a0 : what = 0
      · rw [if_pos a0, if_pos a0, bq_191_43]
      · rw [if_neg a0, if_neg a0, bq_191_46]
        by_cases a1 : q.1 15 (40 * h + r) = 0
        · rw [if_pos a1, if_pos a1, bq_191_51]
          rfl
        · rw [if_neg a1, if_neg a1, bq_191_54]
          rcases sw_cases what 8 (by decide) with ⟨h1, h2⟩ | ⟨k, hk, rfl⟩
          · rw [if_pos (show what.toInt < 1 ∨ (8 : Int) < what.toInt by omega), gsw_out (n := 8) (by simp) h2]
            simp (decide := true) (disch := omega) only [bq_191_253, Option.bind_some, xasI, xasL, xasR, xin_t, cond_true, cond_false, nI_clamp, k_0, k_1, k_2, k_3, k_4, k_5, k_6, k_40, k_60, k_500, k_10000, pk_mul, nI_add, nI_e0, nI_ee, nI_leI, nI_ltI, xbool0, xbool1, xbn0, xbn1, xb_0, xb_1, reduceIte, one0, Option.isNone_none, ne_eq, not_true_eq_false, not_false_eq_true, if_true, if_false, ite_not, Bool.true_and, Bool.and_true]
            rfl
          · have k0 : k ≠ 0 := fun e => a0 (by rw [e]; rfl)
            rw [if_neg (by rw [nI_toInt (by omega)]; omega), nI_toInt (by omega)]
            have hg := gsw_in (d := n9) (r := [n9, q.1 18 (40 * h + r), nI (L.1 (40 * h + r)).length, q.1 16 (40 * h + r), q.1 17 (40 * h + r), if mvs q (40 * h + r) then q.1 22 (40 * h + r) else n9, if mvs q (40 * h + r) then q.1 23 (40 * h + r) else n9, if q.1 15 (40 * h + r) = nI 2 then nI (L.2.1 (40 * h + r)).length else n9, nI (kts L.2.2.1 (40 * h + r))]) (k := 0) (j := k) (by simp) (by simp; omega)
            rw [Nat.zero_add] at hg
            rw [hg]
            match k, hk, k0 with
            | 1, _, _ => show xZ T0 MI 191 100 _ _ _ = _; simp (decide := true) (disch := omega) only [rq_191_100, Option.bind_some, xasI, xasL, xasR, xin_t, cond_true, cond_false, nI_clamp, k_0, k_1, k_2, k_3, k_4, k_5, k_6, k_40, k_60, k_500, k_10000, pk_mul, nI_add, nI_e0, nI_ee, nI_leI, nI_ltI, xbool0, xbool1, xbn0, xbn1, xb_0, xb_1, reduceIte, one0, Option.isNone_none, ne_eq, not_true_eq_false, not_false_eq_true, if_true, if_false, ite_not, Bool.true_and, Bool.and_true]; rfl
            | 2, _, _ =>
              show xZ T0 MI 191 108 _ _ _ = _
              simp (decide := true) (disch := omega) only [rq_191_108, Option.bind_some, xasI, xasL, xasR, xin_t, cond_true, cond_false, nI_clamp, k_0, k_1, k_2, k_3, k_4, k_5, k_6, k_40, k_60, k_500, k_10000, pk_mul, nI_add, nI_e0, nI_ee, nI_leI, nI_ltI, xbool0, xbool1, xbn0, xbn1, xb_0, xb_1, reduceIte, one0, Option.isNone_none, ne_eq, not_true_eq_false, not_false_eq_true, if_true, if_false, ite_not, Bool.true_and, Bool.and_true, (h0.1.1 _ hp).1]
              rfl
            | 3, _, _ => show xZ T0 MI 191 116 _ _ _ = _; simp (decide := true) (disch := omega) only [rq_191_116, Option.bind_some, xasI, xasL, xasR, xin_t, cond_true, cond_false, nI_clamp, k_0, k_1, k_2, k_3, k_4, k_5, k_6, k_40, k_60, k_500, k_10000, pk_mul, nI_add, nI_e0, nI_ee, nI_leI, nI_ltI, xbool0, xbool1, xbn0, xbn1, xb_0, xb_1, reduceIte, one0, Option.isNone_none, ne_eq, not_true_eq_false, not_false_eq_true, if_true, if_false, ite_not, Bool.true_and, Bool.and_true]; rfl
            | 4, _, _ => show xZ T0 MI 191 124 _ _ _ = _; simp (decide := true) (disch := omega) only [rq_191_124, Option.bind_some, xasI, xasL, xasR, xin_t, cond_true, cond_false, nI_clamp, k_0, k_1, k_2, k_3, k_4, k_5, k_6, k_40, k_60, k_500, k_10000, pk_mul, nI_add, nI_e0, nI_ee, nI_leI, nI_ltI, xbool0, xbool1, xbn0, xbn1, xb_0, xb_1, reduceIte, one0, Option.isNone_none, ne_eq, not_true_eq_false, not_false_eq_true, if_true, if_false, ite_not, Bool.true_and, Bool.and_true]; rfl
            | 5, _, _ =>
              show xZ T0 MI 191 132 _ _ _ = some (some (vi (if mvs q (40 * h + r) then q.1 22 (40 * h + r) else n9)), _)
              rw [bq_191_132, k_2]
              have y : xZ T0 MI 191 150 [some (vr (some B)), some (vi (nI h)), some (vi (nI r)), some (vi (nI 5)), some (vi (nI (40 * h + r))), some (vi (q.1 15 (40 * h + r))), o6, o7] [] (rput B q M) = some (some (vi (q.1 22 (40 * h + r))), rput B q M) := by
                simp (decide := true) (disch := omega) only [rq_191_150, bq_191_162, Option.bind_some, xasI, xasL, xasR, xin_t, cond_true, cond_false, nI_clamp, k_0, k_1, k_2, k_3, k_4, k_5, k_6, k_40, k_60, k_500, k_10000, pk_mul, nI_add, nI_e0, nI_ee, nI_leI, nI_ltI, xbool0, xbool1, xbn0, xbn1, xb_0, xb_1, reduceIte, one0, Option.isNone_none, ne_eq, not_true_eq_false, not_false_eq_true, if_true, if_false, ite_not, Bool.true_and, Bool.and_true]
              by_cases b2 : q.1 15 (40 * h + r) = nI 2
              · rw [if_pos b2, if_pos (Or.inl b2), y]
              · rw [if_neg b2, bq_191_138, k_3]
                by_cases b3 : q.1 15 (40 * h + r) = nI 3
                · rw [if_pos b3, if_pos (Or.inr (Or.inl b3)), y]
                · rw [if_neg b3, bq_191_144, k_4]
                  by_cases b4 : q.1 15 (40 * h + r) = nI 4
                  · rw [if_pos b4, if_pos (Or.inr (Or.inr b4)), y]
                  · rw [if_neg b4, if_neg (fun h => h.elim b2 (fun h => h.elim b3 b4)), bq_191_160, bq_191_162]
                    rfl
            | 6, _, _ =>
              show xZ T0 MI 191 163 _ _ _ = some (some (vi (if mvs q (40 * h + r) then q.1 23 (40 * h + r) else n9)), _)
              rw [bq_191_163, k_2]
              have y : xZ T0 MI 191 181 [some (vr (some B)), some (vi (nI h)), some (vi (nI r)), some (vi (nI 6)), some (vi (nI (40 * h + r))), some (vi (q.1 15 (40 * h + r))), o6, o7] [] (rput B q M) = some (some (vi (q.1 23 (40 * h + r))), rput B q M) := by
                simp (decide := true) (disch := omega) only [rq_191_181, bq_191_193, Option.bind_some, xasI, xasL, xasR, xin_t, cond_true, cond_false, nI_clamp, k_0, k_1, k_2, k_3, k_4, k_5, k_6, k_40, k_60, k_500, k_10000, pk_mul, nI_add, nI_e0, nI_ee, nI_leI, nI_ltI, xbool0, xbool1, xbn0, xbn1, xb_0, xb_1, reduceIte, one0, Option.isNone_none, ne_eq, not_true_eq_false, not_false_eq_true, if_true, if_false, ite_not, Bool.true_and, Bool.and_true]
              by_cases b2 : q.1 15 (40 * h + r) = nI 2
              · rw [if_pos b2, if_pos (Or.inl b2), y]
              · rw [if_neg b2, bq_191_169, k_3]
                by_cases b3 : q.1 15 (40 * h + r) = nI 3
                · rw [if_pos b3, if_pos (Or.inr (Or.inl b3)), y]
                · rw [if_neg b3, bq_191_175, k_4]
                  by_cases b4 : q.1 15 (40 * h + r) = nI 4
                  · rw [if_pos b4, if_pos (Or.inr (Or.inr b4)), y]
                  · rw [if_neg b4, if_neg (fun h => h.elim b2 (fun h => h.elim b3 b4)), bq_191_191, bq_191_193]
                    rfl
            | 7, _, _ =>
              show xZ T0 MI 191 194 _ _ _ = some (some (vi (if q.1 15 (40 * h + r) = nI 2 then nI (L.2.1 (40 * h + r)).length else n9)), _)
              rw [bq_191_194, k_2]
              by_cases b2 : q.1 15 (40 * h + r) = nI 2
              · rw [if_pos b2, if_pos b2]
                simp (decide := true) (disch := omega) only [rq_191_200, bq_191_212, Option.bind_some, xasI, xasL, xasR, xin_t, cond_true, cond_false, nI_clamp, k_0, k_1, k_2, k_3, k_4, k_5, k_6, k_40, k_60, k_500, k_10000, pk_mul, nI_add, nI_e0, nI_ee, nI_leI, nI_ltI, xbool0, xbool1, xbn0, xbn1, xb_0, xb_1, reduceIte, one0, Option.isNone_none, ne_eq, not_true_eq_false, not_false_eq_true, if_true, if_false, ite_not, Bool.true_and, Bool.and_true, (h0.1.2.1 _ hp).1]
              · rw [if_neg b2, if_neg b2, bq_191_210, bq_191_212]
                rfl
            | 8, _, _ =>
              show xZ T0 MI 191 213 _ _ _ = some (some (vi (nI (kts L.2.2.1 (40 * h + r)))), _)
              rw [bq_191_213, k_0, c_kt (c := 0) (c' := 1) h0 hp (by omega) rfl, c_kt (c := 1) (c' := 2) h0 hp (by omega) rfl, c_kt (c := 2) (c' := 3) h0 hp (by omega) rfl, c_kt (c := 3) (c' := 4) h0 hp (by omega) rfl, c_kt (c := 4) (c' := 5) h0 hp (by omega) rfl, c_kt (c := 5) (c' := 6) h0 hp (by omega) rfl, bq_191_219, if_pos (by decide), bq_191_250, Nat.zero_add]
              rfl
            | 0, _, k0 => exact absurd rfl k0
/-! row -/
def grow (q : xrho) (L : xLs) (x y key : Int32) : Int64 := match ix x 6 with
  | none => 0
  | some h => match ix y (nu q 12 0) with
    | none => 0
    | some r => if q.1 15 (40 * h + r) = 0 then 0 else lkv (lkp Prod.fst key (L.1 (40 * h + r)))
theorem c_row {T0 MI B : Nat} {q : xrho} {L : xLs} {x y key : Int32} {M : xM} {o4 : Option xV} (h0 : LX q L) (h12 : isN q 12 0 40) : xZ T0 MI 192 0 [some (vr (some B)), some (vi x), some (vi y), some (vi key), o4] [] (rput B q M) = some (some (vl (grow q L x y key)), rput B q M) := by
  have b12 := h12.2
  unfold grow
  rw [bq_192_0, k_6]
  cases hx : ix x 6 with
  | none =>
    rw [c_isIn_n hx]
    simp (decide := true) (disch := omega) only [bq_192_6, bq_192_33, Option.bind_some, xasI, xasL, xasR, xin_t, cond_true, cond_false, nI_clamp, k_0, k_1, k_2, k_3, k_4, k_5, k_6, k_40, k_60, k_500, k_10000, pk_mul, nI_add, nI_e0, nI_ee, nI_leI, nI_ltI, xbool0, xbool1, xbn0, xbn1, xb_0, xb_1, reduceIte, one0, Option.isNone_none, ne_eq, not_true_eq_false, not_false_eq_true, if_true, if_false, ite_not, Bool.true_and, Bool.and_true]
    rfl
  | some h =>
    obtain ⟨hh, rfl, -⟩ := ix_some (by omega) hx
    rw [c_isIn_s (by omega) hx]
    simp (decide := true) (disch := omega) only [bq_192_6, rq_192_9, Option.bind_some, xasI, xasL, xasR, xin_t, cond_true, cond_false, nI_clamp, k_0, k_1, k_2, k_3, k_4, k_5, k_6, k_40, k_60, k_500, k_10000, pk_mul, nI_add, nI_e0, nI_ee, nI_leI, nI_ltI, xbool0, xbool1, xbn0, xbn1, xb_0, xb_1, reduceIte, one0, Option.isNone_none, ne_eq, not_true_eq_false, not_false_eq_true, if_true, if_false, ite_not, Bool.true_and, Bool.and_true, h12.1]
    cases hy : ix y (nu q 12 0) with
    | none =>
      rw [c_isIn_n hy]
      simp (decide := true) (disch := omega) only [bq_192_17, bq_192_33, Option.bind_some, xasI, xasL, xasR, xin_t, cond_true, cond_false, nI_clamp, k_0, k_1, k_2, k_3, k_4, k_5, k_6, k_40, k_60, k_500, k_10000, pk_mul, nI_add, nI_e0, nI_ee, nI_leI, nI_ltI, xbool0, xbool1, xbn0, xbn1, xb_0, xb_1, reduceIte, one0, Option.isNone_none, ne_eq, not_true_eq_false, not_false_eq_true, if_true, if_false, ite_not, Bool.true_and, Bool.and_true]
      rfl
    | some r =>
      obtain ⟨hr, rfl, -⟩ := ix_some (by omega) hy
      rw [c_isIn_s (by omega) hy]
      have hp : 40 * h + r < 240 := by omega
      have hR := h0.1.1 _ hp
      simp (decide := true) (disch := omega) only [bq_192_17, rq_192_20, rq_192_29, Option.bind_some, xasI, xasL, xasR, xin_t, cond_true, cond_false, nI_clamp, k_0, k_1, k_2, k_3, k_4, k_5, k_6, k_40, k_60, k_500, k_10000, pk_mul, nI_add, nI_e0, nI_ee, nI_leI, nI_ltI, xbool0, xbool1, xbn0, xbn1, xb_0, xb_1, reduceIte, one0, Option.isNone_none, ne_eq, not_true_eq_false, not_false_eq_true, if_true, if_false, ite_not, Bool.true_and, Bool.and_true, c_spot]
      by_cases a1 : q.1 15 (40 * h + r) = 0
      · rw [if_pos a1, if_pos a1, bq_192_33]
        rfl
      · rw [if_neg a1, if_neg a1]
        have hl := PR_lkp hR key
        simp (decide := true) (disch := omega) only [bq_192_35, rq_192_41, Option.bind_some, xasI, xasL, xasR, xin_t, cond_true, cond_false, nI_clamp, k_0, k_1, k_2, k_3, k_4, k_5, k_6, k_40, k_60, k_500, k_10000, pk_mul, nI_add, nI_e0, nI_ee, nI_leI, nI_ltI, xbool0, xbool1, xbn0, xbn1, xb_0, xb_1, reduceIte, one0, Option.isNone_none, ne_eq, not_true_eq_false, not_false_eq_true, if_true, if_false, ite_not, Bool.true_and, Bool.and_true, c_spot]
        rw [c_rowAt hp hR.2.1 hR.1]
        cases ho : rfnd (fun j => q.1 20 (60 * (40 * h + r) + j)) key 0 (L.1 (40 * h + r)).length with
        | none =>
          rw [ho] at hl
          dsimp only at hl
          rw [hl]
          simp (decide := true) (disch := omega) only [bq_192_45, Option.bind_some, xasI, xasL, xasR, xin_t, cond_true, cond_false, nI_clamp, k_0, k_1, k_2, k_3, k_4, k_5, k_6, k_40, k_60, k_500, k_10000, pk_mul, nI_add, nI_e0, nI_ee, nI_leI, nI_ltI, xbool0, xbool1, xbn0, xbn1, xb_0, xb_1, reduceIte, one0, Option.isNone_none, ne_eq, not_true_eq_false, not_false_eq_true, if_true, if_false, ite_not, Bool.true_and, Bool.and_true]
          rw [if_neg (show ¬ (0 ≤ rfndI none (60 * (40 * h + r))) from (by decide : ¬ ((0 : Int32) ≤ Int32.ofInt (-1)))), bq_192_52, bq_192_63]
          rfl
        | some j =>
          rw [ho] at hl
          dsimp only at hl
          rw [hl.2]
          have hj := hl.1
          simp (decide := true) (disch := omega) only [bq_192_45, Option.bind_some, xasI, xasL, xasR, xin_t, cond_true, cond_false, nI_clamp, k_0, k_1, k_2, k_3, k_4, k_5, k_6, k_40, k_60, k_500, k_10000, pk_mul, nI_add, nI_e0, nI_ee, nI_leI, nI_ltI, xbool0, xbool1, xbn0, xbn1, xb_0, xb_1, reduceIte, one0, Option.isNone_none, ne_eq, not_true_eq_false, not_false_eq_true, if_true, if_false, ite_not, Bool.true_and, Bool.and_true]
          rw [show rfndI (some j) (60 * (40 * h + r)) = nI (60 * (40 * h + r) + j) from rfl, if_pos (le_0 (by omega))]
          simp (decide := true) (disch := omega) only [rq_192_56, bq_192_63, Option.bind_some, xasI, xasL, xasR, xin_t, cond_true, cond_false, nI_clamp, k_0, k_1, k_2, k_3, k_4, k_5, k_6, k_40, k_60, k_500, k_10000, pk_mul, nI_add, nI_e0, nI_ee, nI_leI, nI_ltI, xbool0, xbool1, xbn0, xbn1, xb_0, xb_1, reduceIte, one0, Option.isNone_none, ne_eq, not_true_eq_false, not_false_eq_true, if_true, if_false, ite_not, Bool.true_and, Bool.and_true]
          rfl
/-! order, status -/
def gorder (q : xrho) (x what : Int32) : Int32 := match ix x (nu q 88 0) with
  | none => n9
  | some i => gsw what n9 0 [q.1 83 i, q.1 84 i, q.1 85 i, q.1 86 i, q.1 87 i]
theorem c_order {T0 MI B : Nat} {q : xrho} {x what : Int32} {M : xM} (h88 : isN q 88 0 4000) : xZ T0 MI 196 0 [some (vr (some B)), some (vi x), some (vi what)] [] (rput B q M) = some (some (vi (gorder q x what)), rput B q M) := by
  have b := h88.2
  unfold gorder
  rw [rq_196_0, h88.1]
  cases hx : ix x (nu q 88 0) with
  | none =>
    rw [c_isIn_n hx]
    simp (decide := true) (disch := omega) only [bq_196_8, bq_196_11, Option.bind_some, xasI, xasL, xasR, xin_t, cond_true, cond_false, nI_clamp, k_0, k_1, k_2, k_3, k_4, k_5, k_6, k_40, k_60, k_500, k_10000, pk_mul, nI_add, nI_e0, nI_ee, nI_leI, nI_ltI, xbool0, xbool1, xbn0, xbn1, xb_0, xb_1, reduceIte, one0, Option.isNone_none, ne_eq, not_true_eq_false, not_false_eq_true, if_true, if_false, ite_not, Bool.true_and, Bool.and_true]
    rfl
  | some l =>
    obtain ⟨hl, rfl, -⟩ := ix_some (by omega) hx
    rw [c_isIn_s (by omega) hx]
    simp (decide := true) (disch := omega) only [bq_196_8, bq_196_14, Option.bind_some, xasI, xasL, xasR, xin_t, cond_true, cond_false, nI_clamp, k_0, k_1, k_2, k_3, k_4, k_5, k_6, k_40, k_60, k_500, k_10000, pk_mul, nI_add, nI_e0, nI_ee, nI_leI, nI_ltI, xbool0, xbool1, xbn0, xbn1, xb_0, xb_1, reduceIte, one0, Option.isNone_none, ne_eq, not_true_eq_false, not_false_eq_true, if_true, if_false, ite_not, Bool.true_and, Bool.and_true]
    rcases sw_cases what 4 (by decide) with ⟨h1, h2⟩ | ⟨k, hk, rfl⟩
    · rw [if_pos (show what.toInt < 0 ∨ (4 : Int) < what.toInt from h1), gsw_out (n := 4) (by simp) h2]
      simp (decide := true) (disch := omega) only [bq_196_83, Option.bind_some, xasI, xasL, xasR, xin_t, cond_true, cond_false, nI_clamp, k_0, k_1, k_2, k_3, k_4, k_5, k_6, k_40, k_60, k_500, k_10000, pk_mul, nI_add, nI_e0, nI_ee, nI_leI, nI_ltI, xbool0, xbool1, xbn0, xbn1, xb_0, xb_1, reduceIte, one0, Option.isNone_none, ne_eq, not_true_eq_false, not_false_eq_true, if_true, if_false, ite_not, Bool.true_and, Bool.and_true]
      rfl
    · rw [if_neg (by rw [nI_toInt (by omega)]; omega), nI_toInt (by omega)]
      have hg := gsw_in (d := n9) (r := [q.1 83 l, q.1 84 l, q.1 85 l, q.1 86 l, q.1 87 l]) (k := 0) (j := k) (by simp) (by simp; omega)
      rw [Nat.zero_add] at hg
      rw [hg]
      match k, hk with
      | 0, _ => show xZ T0 MI 196 48 _ _ _ = _; simp (decide := true) (disch := omega) only [rq_196_48, Option.bind_some, xasI, xasL, xasR, xin_t, cond_true, cond_false, nI_clamp, k_0, k_1, k_2, k_3, k_4, k_5, k_6, k_40, k_60, k_500, k_10000, pk_mul, nI_add, nI_e0, nI_ee, nI_leI, nI_ltI, xbool0, xbool1, xbn0, xbn1, xb_0, xb_1, reduceIte, one0, Option.isNone_none, ne_eq, not_true_eq_false, not_false_eq_true, if_true, if_false, ite_not, Bool.true_and, Bool.and_true]; rfl
      | 1, _ => show xZ T0 MI 196 55 _ _ _ = _; simp (decide := true) (disch := omega) only [rq_196_55, Option.bind_some, xasI, xasL, xasR, xin_t, cond_true, cond_false, nI_clamp, k_0, k_1, k_2, k_3, k_4, k_5, k_6, k_40, k_60, k_500, k_10000, pk_mul, nI_add, nI_e0, nI_ee, nI_leI, nI_ltI, xbool0, xbool1, xbn0, xbn1, xb_0, xb_1, reduceIte, one0, Option.isNone_none, ne_eq, not_true_eq_false, not_false_eq_true, if_true, if_false, ite_not, Bool.true_and, Bool.and_true]; rfl
      | 2, _ => show xZ T0 MI 196 62 _ _ _ = _; simp (decide := true) (disch := omega) only [rq_196_62, Option.bind_some, xasI, xasL, xasR, xin_t, cond_true, cond_false, nI_clamp, k_0, k_1, k_2, k_3, k_4, k_5, k_6, k_40, k_60, k_500, k_10000, pk_mul, nI_add, nI_e0, nI_ee, nI_leI, nI_ltI, xbool0, xbool1, xbn0, xbn1, xb_0, xb_1, reduceIte, one0, Option.isNone_none, ne_eq, not_true_eq_false, not_false_eq_true, if_true, if_false, ite_not, Bool.true_and, Bool.and_true]; rfl
      | 3, _ => show xZ T0 MI 196 69 _ _ _ = _; simp (decide := true) (disch := omega) only [rq_196_69, Option.bind_some, xasI, xasL, xasR, xin_t, cond_true, cond_false, nI_clamp, k_0, k_1, k_2, k_3, k_4, k_5, k_6, k_40, k_60, k_500, k_10000, pk_mul, nI_add, nI_e0, nI_ee, nI_leI, nI_ltI, xbool0, xbool1, xbn0, xbn1, xb_0, xb_1, reduceIte, one0, Option.isNone_none, ne_eq, not_true_eq_false, not_false_eq_true, if_true, if_false, ite_not, Bool.true_and, Bool.and_true]; rfl
      | 4, _ => show xZ T0 MI 196 76 _ _ _ = _; simp (decide := true) (disch := omega) only [rq_196_76, Option.bind_some, xasI, xasL, xasR, xin_t, cond_true, cond_false, nI_clamp, k_0, k_1, k_2, k_3, k_4, k_5, k_6, k_40, k_60, k_500, k_10000, pk_mul, nI_add, nI_e0, nI_ee, nI_leI, nI_ltI, xbool0, xbool1, xbn0, xbn1, xb_0, xb_1, reduceIte, one0, Option.isNone_none, ne_eq, not_true_eq_false, not_false_eq_true, if_true, if_false, ite_not, Bool.true_and, Bool.and_true]; rfl
