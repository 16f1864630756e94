/-! THE REFERENCE'S METHODS: what is left of the small ones -/
theorem k_7 : Int32.ofInt 7 = nI 7 := rfl
theorem k_9 : Int32.ofInt 9 = nI 9 := rfl
theorem k_11 : Int32.ofInt 11 = nI 11 := rfl
theorem k_13 : Int32.ofInt 13 = nI 13 := rfl
theorem k_1200 : Int32.ofInt 1200 = nI 1200 := by decide
theorem nI_e0 {a : Nat} (h : a < 2 ^ 31) : (nI a = 0) = (a = 0) := propext ⟨fun e => (nI_eq h (by decide)).mp (e.trans rfl), fun e => by rw [e]; rfl⟩
theorem nI_ee {a b : Nat} (h : a < 2 ^ 31) (h2 : b < 2 ^ 31) : (nI a = nI b) = (a = b) := propext (nI_eq h h2)
theorem xbn0 : xbool (nI 0) = true := by decide
theorem xbn1 : xbool (nI 1) = true := by decide
theorem xb_0 : xbool 0 = true := by decide
theorem xb_1 : xbool 1 = true := by decide
def gowedL (q : xrho) (r k n : Nat) : xrho := gnew q n (if k = 0 then nI 7 else if k = 1 then nI 9 else if k = 2 then nI 11 else nI 13) (if k = 0 ∨ k = 3 then q.1 11 r else q.1 10 r) (nI 0) (nI r) (q.1 9 (4 * r + k))
theorem c_sendsOwed {T0 MI B r k n : Nat} {q : xrho} {o3 o4 : Option xV} {M : xM} (hr : r < 40) (hk : k < 4) (hn : n < 1200) (hq : q.1 82 0 = nI n) : xZ T0 MI 157 0 [some (vr (some B)), some (vi (nI r)), some (vi (nI k)), o3, o4] [] (rput B q M) = some (none, rput B (gowedL q r k n) M) := by
  match k, hk with
  | 0, _ => simp (decide := true) (disch := omega) only [bq_157_0, bq_157_4, bq_157_9, bq_157_14, bq_157_19, bq_157_24, bq_157_29, bq_157_31, bq_157_38, rq_157_43, rq_157_52, rq_157_58, bq_157_73, Option.bind_some, xasI, xasL, xasR, xin_t, cond_true, cond_false, nI_clamp, k_0, k_1, k_2, k_3, k_4, k_5, k_6, k_40, k_60, k_500, k_10000, pk_mul, nI_add, nI_e0, nI_ee, nI_leI, nI_ltI, xbool0, xbool1, xbn0, xbn1, xb_0, xb_1, reduceIte, one0, Option.isNone_none, ne_eq, not_true_eq_false, not_false_eq_true, if_true, if_false, ite_not, k_7, k_9, k_11, k_13, c_newLetter (hl := hn) (hq := hq), gowedL]
  | 1, _ => simp (decide := true) (disch := omega) only [bq_157_0, bq_157_4, bq_157_9, bq_157_14, bq_157_19, bq_157_24, bq_157_29, bq_157_31, bq_157_38, rq_157_43, rq_157_52, rq_157_58, bq_157_73, Option.bind_some, xasI, xasL, xasR, xin_t, cond_true, cond_false, nI_clamp, k_0, k_1, k_2, k_3, k_4, k_5, k_6, k_40, k_60, k_500, k_10000, pk_mul, nI_add, nI_e0, nI_ee, nI_leI, nI_ltI, xbool0, xbool1, xbn0, xbn1, xb_0, xb_1, reduceIte, one0, Option.isNone_none, ne_eq, not_true_eq_false, not_false_eq_true, if_true, if_false, ite_not, k_7, k_9, k_11, k_13, c_newLetter (hl := hn) (hq := hq), gowedL]
  | 2, _ => simp (decide := true) (disch := omega) only [bq_157_0, bq_157_4, bq_157_9, bq_157_14, bq_157_19, bq_157_24, bq_157_29, bq_157_31, bq_157_38, rq_157_43, rq_157_52, rq_157_58, bq_157_73, Option.bind_some, xasI, xasL, xasR, xin_t, cond_true, cond_false, nI_clamp, k_0, k_1, k_2, k_3, k_4, k_5, k_6, k_40, k_60, k_500, k_10000, pk_mul, nI_add, nI_e0, nI_ee, nI_leI, nI_ltI, xbool0, xbool1, xbn0, xbn1, xb_0, xb_1, reduceIte, one0, Option.isNone_none, ne_eq, not_true_eq_false, not_false_eq_true, if_true, if_false, ite_not, k_7, k_9, k_11, k_13, c_newLetter (hl := hn) (hq := hq), gowedL]
  | 3, _ => simp (decide := true) (disch := omega) only [bq_157_0, bq_157_4, bq_157_9, bq_157_14, bq_157_19, bq_157_24, bq_157_29, bq_157_31, bq_157_38, rq_157_43, rq_157_52, rq_157_58, bq_157_73, Option.bind_some, xasI, xasL, xasR, xin_t, cond_true, cond_false, nI_clamp, k_0, k_1, k_2, k_3, k_4, k_5, k_6, k_40, k_60, k_500, k_10000, pk_mul, nI_add, nI_e0, nI_ee, nI_leI, nI_ltI, xbool0, xbool1, xbn0, xbn1, xb_0, xb_1, reduceIte, one0, Option.isNone_none, ne_eq, not_true_eq_false, not_false_eq_true, if_true, if_false, ite_not, k_7, k_9, k_11, k_13, c_newLetter (hl := hn) (hq := hq), gowedL]
def gpart (q : xrho) (h r n : Nat) : xrho := rup (rup (rup (rup (gnew q n (nI 4) (q.1 21 (40 * h + r)) (nI h) (nI r) (q.1 18 (40 * h + r) + nI 1)) 67 n (q.1 22 (40 * h + r))) 68 n (q.1 23 (40 * h + r))) 70 n (q.1 16 (40 * h + r))) 71 n (q.1 17 (40 * h + r))
theorem c_partLetter {T0 MI B h r n : Nat} {q : xrho} {o3 o4 : Option xV} {M : xM} (hh : h < 6) (hr : r < 40) (hn : n < 1200) (hq : q.1 82 0 = nI n) : xZ T0 MI 162 0 [some (vr (some B)), some (vi (nI h)), some (vi (nI r)), o3, o4] [] (rput B q M) = some (some (vi (nI n)), rput B (gpart q h r n) M) := by
  simp (decide := true) (disch := omega) only [bq_162_0, rq_162_5, rq_162_27, Option.bind_some, xasI, xasL, xasR, xin_t, cond_true, cond_false, nI_clamp, k_0, k_1, k_2, k_3, k_4, k_5, k_6, k_40, k_60, k_500, k_10000, pk_mul, nI_add, nI_e0, nI_ee, nI_leI, nI_ltI, xbool0, xbool1, xbn0, xbn1, xb_0, xb_1, reduceIte, one0, Option.isNone_none, ne_eq, not_true_eq_false, not_false_eq_true, if_true, if_false, ite_not, c_spot, c_newLetter (hl := hn) (hq := hq)]
  rfl
def ganew (q : xrho) (l p : Nat) : Prop := (q.1 15 p = 0 ∨ q.1 15 p = nI 4 ∨ q.1 15 p = nI 5) ∧ q.1 68 l = 0 ∧ (q.1 30 p < q.1 64 l ∨ q.1 64 l = q.1 30 p ∧ q.1 31 p < q.1 67 l)
noncomputable def tI (c : Prop) : Int32 := @ite _ c (Classical.propDecidable c) 1 0
theorem tI_t {c : Prop} (h : c) : tI c = 1 := by unfold tI; rw [if_pos h]
theorem tI_f {c : Prop} (h : ¬ c) : tI c = 0 := by unfold tI; rw [if_neg h]
theorem tI_c {a b : Prop} (h : a ↔ b) : tI a = tI b := by rw [propext h]
theorem i32_le (x y : Int32) : (x ≤ y) = ¬ (y < x) := propext ⟨fun h => Int32.not_lt.mpr h, fun h => Int32.not_lt.mp h⟩
theorem c_isAnew {T0 MI B l p : Nat} {q : xrho} {M : xM} (hl : l < 1200) (hp : p < 240) : xZ T0 MI 172 0 [some (vr (some B)), some (vi (nI l)), some (vi (nI p))] [] (rput B q M) = some (some (vi (tI (ganew q l p))), rput B q M) := by
  have e38 : xZ T0 MI 172 38 [some (vr (some B)), some (vi (nI l)), some (vi (nI p))] [] (rput B q M) = some (some (vi 0), rput B q M) := by
    simp (decide := true) (disch := omega) only [bq_172_38, Option.bind_some, xasI, xasL, xasR, xin_t, cond_true, cond_false, nI_clamp, k_0, k_1, k_2, k_3, k_4, k_5, k_6, k_40, k_60, k_500, k_10000, pk_mul, nI_add, nI_e0, nI_ee, nI_leI, nI_ltI, xbool0, xbool1, xbn0, xbn1, xb_0, xb_1, reduceIte, one0, Option.isNone_none, ne_eq, not_true_eq_false, not_false_eq_true, if_true, if_false, ite_not]; rfl
  have e40 : xZ T0 MI 172 40 [some (vr (some B)), some (vi (nI l)), some (vi (nI p))] [] (rput B q M) = some (some (vi (tI (q.1 30 p < q.1 64 l ∨ q.1 64 l = q.1 30 p ∧ q.1 31 p < q.1 67 l))), rput B q M) := by
    simp (decide := true) (disch := omega) only [rq_172_40, rq_172_55, rq_172_70, bq_172_85, bq_172_89, bq_172_90, Option.bind_some, xasI, xasL, xasR, xin_t, cond_true, cond_false, nI_clamp, k_0, k_1, k_2, k_3, k_4, k_5, k_6, k_40, k_60, k_500, k_10000, pk_mul, nI_add, nI_e0, nI_ee, nI_leI, nI_ltI, xbool0, xbool1, xbn0, xbn1, xb_0, xb_1, reduceIte, one0, Option.isNone_none, ne_eq, not_true_eq_false, not_false_eq_true, if_true, if_false, ite_not]
    by_cases h5 : q.1 30 p < q.1 64 l
    · rw [if_pos h5, tI_t (Or.inl h5)]; rfl
    rw [if_neg h5]
    by_cases h6 : q.1 64 l = q.1 30 p
    · rw [if_pos h6]
      by_cases h7 : q.1 67 l ≤ q.1 31 p
      · rw [if_pos h7, tI_f (fun h => h.elim h5 (fun h => Int32.not_lt.mpr h7 h.2))]; rfl
      · rw [if_neg h7, tI_t (Or.inr ⟨h6, Int32.not_le.mp h7⟩)]; rfl
    · rw [if_neg h6, tI_f (fun h => h.elim h5 (fun h => h6 h.1))]; rfl
  have e29 : xZ T0 MI 172 29 [some (vr (some B)), some (vi (nI l)), some (vi (nI p))] [] (rput B q M) = some (some (vi (tI (q.1 68 l = 0 ∧ (q.1 30 p < q.1 64 l ∨ q.1 64 l = q.1 30 p ∧ q.1 31 p < q.1 67 l)))), rput B q M) := by
    simp (decide := true) (disch := omega) only [rq_172_29, Option.bind_some, xasI, xasL, xasR, xin_t, cond_true, cond_false, nI_clamp, k_0, k_1, k_2, k_3, k_4, k_5, k_6, k_40, k_60, k_500, k_10000, pk_mul, nI_add, nI_e0, nI_ee, nI_leI, nI_ltI, xbool0, xbool1, xbn0, xbn1, xb_0, xb_1, reduceIte, one0, Option.isNone_none, ne_eq, not_true_eq_false, not_false_eq_true, if_true, if_false, ite_not, e40, e38]
    by_cases h4 : q.1 68 l = 0
    · rw [if_pos h4]
      congr 4
      exact tI_c ⟨fun h => ⟨h4, h⟩, fun h => h.2⟩
    · rw [if_neg h4, tI_f (fun h => h4 h.1)]
  simp (decide := true) (disch := omega) only [rq_172_0, rq_172_9, rq_172_19, Option.bind_some, xasI, xasL, xasR, xin_t, cond_true, cond_false, nI_clamp, k_0, k_1, k_2, k_3, k_4, k_5, k_6, k_40, k_60, k_500, k_10000, pk_mul, nI_add, nI_e0, nI_ee, nI_leI, nI_ltI, xbool0, xbool1, xbn0, xbn1, xb_0, xb_1, reduceIte, one0, Option.isNone_none, ne_eq, not_true_eq_false, not_false_eq_true, if_true, if_false, ite_not, e29, e38]
  unfold ganew
  by_cases h1 : q.1 15 p = 0
  · rw [if_pos h1]
    congr 4
    exact tI_c ⟨fun h => ⟨Or.inl h1, h⟩, fun h => h.2⟩
  rw [if_neg h1]
  by_cases h2 : q.1 15 p = nI 4
  · rw [if_pos h2]
    congr 4
    exact tI_c ⟨fun h => ⟨Or.inr (Or.inl h2), h⟩, fun h => h.2⟩
  rw [if_neg h2]
  by_cases h3 : q.1 15 p = nI 5
  · rw [if_pos h3]
    congr 4
    exact tI_c ⟨fun h => ⟨Or.inr (Or.inr h3), h⟩, fun h => h.2⟩
  rw [if_neg h3, tI_f (fun h => h.1.elim h1 (fun h => h.elim h2 h3))]
theorem c_isToCaller {T0 MI k : Nat} {M : xM} (hk : k < 15) : xZ T0 MI 142 0 [some (vi (nI k))] [] M = some (some (vi (if k = 1 ∨ k = 2 then 1 else 0)), M) := by
  by_cases h1 : k = 1
  · simp (decide := true) (disch := omega) only [bq_142_0, bq_142_5, bq_142_10, bq_142_14, bq_142_15, Option.bind_some, xasI, xasL, xasR, xin_t, cond_true, cond_false, nI_clamp, k_0, k_1, k_2, k_3, k_4, k_5, k_6, k_40, k_60, k_500, k_10000, pk_mul, nI_add, nI_e0, nI_ee, nI_leI, nI_ltI, xbool0, xbool1, xbn0, xbn1, xb_0, xb_1, reduceIte, one0, Option.isNone_none, ne_eq, not_true_eq_false, not_false_eq_true, if_true, if_false, ite_not, h1, true_or]; rfl
  · by_cases h2 : k = 2
    · simp (decide := true) (disch := omega) only [bq_142_0, bq_142_5, bq_142_10, bq_142_14, bq_142_15, Option.bind_some, xasI, xasL, xasR, xin_t, cond_true, cond_false, nI_clamp, k_0, k_1, k_2, k_3, k_4, k_5, k_6, k_40, k_60, k_500, k_10000, pk_mul, nI_add, nI_e0, nI_ee, nI_leI, nI_ltI, xbool0, xbool1, xbn0, xbn1, xb_0, xb_1, reduceIte, one0, Option.isNone_none, ne_eq, not_true_eq_false, not_false_eq_true, if_true, if_false, ite_not, h2, or_true]; rfl
    · simp (decide := true) (disch := omega) only [bq_142_0, bq_142_5, bq_142_10, bq_142_14, bq_142_15, Option.bind_some, xasI, xasL, xasR, xin_t, cond_true, cond_false, nI_clamp, k_0, k_1, k_2, k_3, k_4, k_5, k_6, k_40, k_60, k_500, k_10000, pk_mul, nI_add, nI_e0, nI_ee, nI_leI, nI_ltI, xbool0, xbool1, xbn0, xbn1, xb_0, xb_1, reduceIte, one0, Option.isNone_none, ne_eq, not_true_eq_false, not_false_eq_true, if_true, if_false, ite_not, h1, h2, or_self]; rfl
