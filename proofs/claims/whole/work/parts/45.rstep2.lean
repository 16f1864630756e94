/-! THE REFERENCE'S step: the count, the book's letters -/
theorem gnew_nef {q : xrho} {l f : Nat} {a b c d e : Int32} (h : f < 60 ∨ f = 65 ∨ 69 < f) (h2 : f ≠ 82) : (gnew q l a b c d e).1 f = q.1 f := by
  unfold gnew
  rw [rup_ne _ _ _ _ (by omega), rup_ne _ _ _ _ (by omega), rup_ne _ _ _ _ (by omega), rup_ne _ _ _ _ (by omega), rup_ne _ _ _ _ (by omega), rup_ne _ _ _ _ (by omega), rup_ne _ _ _ _ (by omega), rup_ne _ _ _ _ (by omega), rup_ne _ _ _ _ (by omega), rup_ne _ _ _ _ (by omega)]
theorem gnew_82f (q : xrho) (l : Nat) (a b c d e : Int32) : (gnew q l a b c d e).1 82 0 = nI (l + 1) := by unfold gnew; rw [rup_at]
def abkB (q : xrho) (r : Nat) : xrho := if q.1 2 r = 0 ∨ q.1 7 r < 0 then q else gbeg q (nu q 82 0) r
def abkO (q : xrho) (r k : Nat) : xrho := if q.1 9 (4 * r + k) < 0 then q else gowedL q r k (nu q 82 0)
def abk1 (q : xrho) (r : Nat) : xrho := abkO (abkO (abkO (abkO (abkB q r) r 0) r 1) r 2) r 3
def abks : Nat → Nat → xrho → xrho
  | _, 0, q => q
  | r, m + 1, q => abks (r + 1) m (abk1 q r)
def cO (q : xrho) (r k : Nat) : Nat := if q.1 9 (4 * r + k) < 0 then 0 else 1
def cW (q : xrho) (r : Nat) : Nat := if q.1 2 r = 0 ∨ q.1 7 r < 0 then 0 else 1
def cB (q : xrho) (r : Nat) : Nat := cW q r + cO q r 0 + cO q r 1 + cO q r 2 + cO q r 3
def cG (q : xrho) (h r : Nat) : Nat := if q.1 15 (40 * h + r) = nI 2 ∨ q.1 15 (40 * h + r) = nI 3 then 1 else 0
def cS (q : xrho) (h : Nat) : Nat → Nat → Nat
  | _, 0 => 0
  | r, m + 1 => (if h = 0 then cB q r else 0) + cG q h r + cS q h (r + 1) m
def cBs (q : xrho) : Nat → Nat → Nat
  | _, 0 => 0
  | r, m + 1 => cB q r + cBs q (r + 1) m
theorem cO_le (q : xrho) (r k : Nat) : cO q r k ≤ 1 := by unfold cO; split <;> omega
theorem cW_le (q : xrho) (r : Nat) : cW q r ≤ 1 := by unfold cW; split <;> omega
theorem cG_le (q : xrho) (h r : Nat) : cG q h r ≤ 1 := by unfold cG; split <;> omega
theorem cB_le (q : xrho) (r : Nat) : cB q r ≤ 5 := by
  unfold cB
  have := cO_le q r 0
  have := cO_le q r 1
  have := cO_le q r 2
  have := cO_le q r 3
  have := cW_le q r
  omega
theorem cS_le (q : xrho) (h : Nat) : ∀ m r, cS q h r m ≤ 6 * m
  | 0, _ => by unfold cS; omega
  | m + 1, r => by
    have := cS_le q h m (r + 1)
    have := cB_le q r
    have := cG_le q h r
    unfold cS
    split <;> omega
/-! the count -/
theorem c_cK {T0 MI B r : Nat} {q : xrho} {M : xM} (hr : r < 40) {k k' a : Nat} (hk : k < 4) (hk' : k + 1 = k') (ha : a < 1000) : xZ T0 MI 161 76 [some (vr (some B)), some (vi (nI 0)), some (vi (nI a)), some (vi (nI r)), some (vi (nI k))] [] (rput B q M) = xZ T0 MI 161 76 [some (vr (some B)), some (vi (nI 0)), some (vi (nI (a + cO q r k))), some (vi (nI r)), some (vi (nI k'))] [] (rput B q M) := by
  subst hk'
  rw [bq_161_76, if_neg (show ¬ (Int32.ofInt 4 ≤ nI k) by rw [k_4, nI_leI (by omega) (by omega)]; omega)]
  unfold cO
  simp (decide := true) (disch := omega) only [bq_161_82, rq_161_86, Option.bind_some, xasI, xasL, xasR, xin_t, cond_true, cond_false, nI_clamp, k_0, k_1, k_2, k_3, k_4, k_5, k_6, k_40, k_60, k_500, k_10000, pk_mul, nI_add, nI_e0, nI_ee, nI_leI, nI_ltI, xbool0, xbool1, xbn0, xbn1, xb_0, xb_1, reduceIte, one0, Option.isNone_none, ne_eq, not_true_eq_false, not_false_eq_true, if_true, if_false, ite_not, Bool.true_and, Bool.and_true]
  by_cases e : q.1 9 (4 * r + k) < 0
  · rw [if_pos e, if_pos e]
    simp (decide := true) (disch := omega) only [bq_161_105, bq_161_106, Option.bind_some, xasI, xasL, xasR, xin_t, cond_true, cond_false, nI_clamp, k_0, k_1, k_2, k_3, k_4, k_5, k_6, k_40, k_60, k_500, k_10000, pk_mul, nI_add, nI_e0, nI_ee, nI_leI, nI_ltI, xbool0, xbool1, xbn0, xbn1, xb_0, xb_1, reduceIte, one0, Option.isNone_none, ne_eq, not_true_eq_false, not_false_eq_true, if_true, if_false, ite_not, Bool.true_and, Bool.and_true]
  · rw [if_neg e, if_neg e]
    simp (decide := true) (disch := omega) only [bq_161_101, bq_161_106, Option.bind_some, xasI, xasL, xasR, xin_t, cond_true, cond_false, nI_clamp, k_0, k_1, k_2, k_3, k_4, k_5, k_6, k_40, k_60, k_500, k_10000, pk_mul, nI_add, nI_e0, nI_ee, nI_leI, nI_ltI, xbool0, xbool1, xbn0, xbn1, xb_0, xb_1, reduceIte, one0, Option.isNone_none, ne_eq, not_true_eq_false, not_false_eq_true, if_true, if_false, ite_not, Bool.true_and, Bool.and_true]
theorem c_cA {T0 MI B r : Nat} {q : xrho} {M : xM} {o4 : Option xV} (hr : r < 40) {a : Nat} (ha : a < 900) : ∃ o4', xZ T0 MI 161 43 [some (vr (some B)), some (vi (nI 0)), some (vi (nI a)), some (vi (nI r)), o4] [] (rput B q M) = xZ T0 MI 161 114 [some (vr (some B)), some (vi (nI 0)), some (vi (nI (a + cB q r))), some (vi (nI r)), o4'] [] (rput B q M) := by
  have h1 : xZ T0 MI 161 43 [some (vr (some B)), some (vi (nI 0)), some (vi (nI a)), some (vi (nI r)), o4] [] (rput B q M) = xZ T0 MI 161 73 [some (vr (some B)), some (vi (nI 0)), some (vi (nI (a + cW q r))), some (vi (nI r)), o4] [] (rput B q M) := by
    unfold cW
    simp (decide := true) (disch := omega) only [bq_161_43, rq_161_47, Option.bind_some, xasI, xasL, xasR, xin_t, cond_true, cond_false, nI_clamp, k_0, k_1, k_2, k_3, k_4, k_5, k_6, k_40, k_60, k_500, k_10000, pk_mul, nI_add, nI_e0, nI_ee, nI_leI, nI_ltI, xbool0, xbool1, xbn0, xbn1, xb_0, xb_1, reduceIte, one0, Option.isNone_none, ne_eq, not_true_eq_false, not_false_eq_true, if_true, if_false, ite_not, Bool.true_and, Bool.and_true]
    by_cases e : q.1 2 r = 0
    · rw [if_pos e, if_pos (Or.inl e)]
      rfl
    · rw [if_neg e]
      simp (decide := true) (disch := omega) only [rq_161_56, Option.bind_some, xasI, xasL, xasR, xin_t, cond_true, cond_false, nI_clamp, k_0, k_1, k_2, k_3, k_4, k_5, k_6, k_40, k_60, k_500, k_10000, pk_mul, nI_add, nI_e0, nI_ee, nI_leI, nI_ltI, xbool0, xbool1, xbn0, xbn1, xb_0, xb_1, reduceIte, one0, Option.isNone_none, ne_eq, not_true_eq_false, not_false_eq_true, if_true, if_false, ite_not, Bool.true_and, Bool.and_true]
      by_cases e2 : q.1 7 r < 0
      · rw [if_pos e2, if_pos (Or.inr e2)]
        simp (decide := true) (disch := omega) only [bq_161_70, bq_161_71, Option.bind_some, xasI, xasL, xasR, xin_t, cond_true, cond_false, nI_clamp, k_0, k_1, k_2, k_3, k_4, k_5, k_6, k_40, k_60, k_500, k_10000, pk_mul, nI_add, nI_e0, nI_ee, nI_leI, nI_ltI, xbool0, xbool1, xbn0, xbn1, xb_0, xb_1, reduceIte, one0, Option.isNone_none, ne_eq, not_true_eq_false, not_false_eq_true, if_true, if_false, ite_not, Bool.true_and, Bool.and_true]
      · rw [if_neg e2, if_neg (fun h => h.elim e e2)]
        simp (decide := true) (disch := omega) only [bq_161_66, bq_161_71, Option.bind_some, xasI, xasL, xasR, xin_t, cond_true, cond_false, nI_clamp, k_0, k_1, k_2, k_3, k_4, k_5, k_6, k_40, k_60, k_500, k_10000, pk_mul, nI_add, nI_e0, nI_ee, nI_leI, nI_ltI, xbool0, xbool1, xbn0, xbn1, xb_0, xb_1, reduceIte, one0, Option.isNone_none, ne_eq, not_true_eq_false, not_false_eq_true, if_true, if_false, ite_not, Bool.true_and, Bool.and_true]
  have b0 := cO_le q r 0
  have b1 := cO_le q r 1
  have b2 := cO_le q r 2
  have b3 := cO_le q r 3
  have b4 := cW_le q r
  refine ⟨some (vi (nI 4)), ?_⟩
  rw [h1, bq_161_73, k_0, c_cK (k := 0) (k' := 1) hr (by omega) rfl (by omega), c_cK (k := 1) (k' := 2) hr (by omega) rfl (by omega), c_cK (k := 2) (k' := 3) hr (by omega) rfl (by omega), c_cK (k := 3) (k' := 4) hr (by omega) rfl (by omega), bq_161_76, if_pos (by decide)]
  unfold cB
  rw [show a + cW q r + cO q r 0 + cO q r 1 + cO q r 2 + cO q r 3 = a + (cW q r + cO q r 0 + cO q r 1 + cO q r 2 + cO q r 3) by omega]
theorem c_stepA {T0 MI B h n : Nat} {q : xrho} {M : xM} (hh : h < 6) (hn : n ≤ 40) (hq : q.1 12 0 = nI n) : ∀ m r, r + m = n → ∀ a, a ≤ 6 * r → ∀ o4, ∃ o3' o4', xZ T0 MI 161 35 [some (vr (some B)), some (vi (nI h)), some (vi (nI a)), some (vi (nI r)), o4] [] (rput B q M) = xZ T0 MI 161 156 [some (vr (some B)), some (vi (nI h)), some (vi (nI (a + cS q h r m))), o3', o4'] [] (rput B q M) := by
  intro m
  induction m with
  | zero =>
    intro r hr a ha o4
    refine ⟨some (vi (nI r)), o4, ?_⟩
    simp (decide := true) (disch := omega) only [rq_161_35, Option.bind_some, xasI, xasL, xasR, xin_t, cond_true, cond_false, nI_clamp, k_0, k_1, k_2, k_3, k_4, k_5, k_6, k_40, k_60, k_500, k_10000, pk_mul, nI_add, nI_e0, nI_ee, nI_leI, nI_ltI, xbool0, xbool1, xbn0, xbn1, xb_0, xb_1, reduceIte, one0, Option.isNone_none, ne_eq, not_true_eq_false, not_false_eq_true, if_true, if_false, ite_not, Bool.true_and, Bool.and_true, hq]
    rw [if_pos (by omega)]
    rfl
  | succ m ih =>
    intro r hr a ha o4
    have g1 : ∃ o4', xZ T0 MI 161 43 [some (vr (some B)), some (vi (nI h)), some (vi (nI a)), some (vi (nI r)), o4] [] (rput B q M) = xZ T0 MI 161 114 [some (vr (some B)), some (vi (nI h)), some (vi (nI (a + (if h = 0 then cB q r else 0)))), some (vi (nI r)), o4'] [] (rput B q M) := by
      by_cases e : h = 0
      · subst e
        rw [if_pos rfl]
        exact c_cA (by omega) (by omega)
      · rw [if_neg e]
        refine ⟨some (vi (nI 0)), ?_⟩
        rw [bq_161_43, if_neg (by rw [nI_e0 (by omega)]; exact e), bq_161_73, bq_161_76, if_neg (by decide), bq_161_82, if_neg (by rw [nI_e0 (by omega)]; exact e)]
        rfl
    obtain ⟨o4', g1⟩ := g1
    have b1 := cB_le q r
    have b2 := cG_le q h r
    have b3 : (if h = 0 then cB q r else 0) ≤ 5 := by split <;> omega
    obtain ⟨o3'', o4'', e⟩ := ih (r + 1) (by omega) (a + (if h = 0 then cB q r else 0) + cG q h r) (by omega) o4'
    refine ⟨o3'', o4'', ?_⟩
    have g2 : xZ T0 MI 161 35 [some (vr (some B)), some (vi (nI h)), some (vi (nI a)), some (vi (nI r)), o4] [] (rput B q M) = xZ T0 MI 161 43 [some (vr (some B)), some (vi (nI h)), some (vi (nI a)), some (vi (nI r)), o4] [] (rput B q M) := by
      simp (decide := true) (disch := omega) only [rq_161_35, Option.bind_some, xasI, xasL, xasR, xin_t, cond_true, cond_false, nI_clamp, k_0, k_1, k_2, k_3, k_4, k_5, k_6, k_40, k_60, k_500, k_10000, pk_mul, nI_add, nI_e0, nI_ee, nI_leI, nI_ltI, xbool0, xbool1, xbn0, xbn1, xb_0, xb_1, reduceIte, one0, Option.isNone_none, ne_eq, not_true_eq_false, not_false_eq_true, if_true, if_false, ite_not, Bool.true_and, Bool.and_true, hq]
      rw [if_neg (by omega)]
    have g3 : ∀ x : Nat, x < 1000 → xZ T0 MI 161 114 [some (vr (some B)), some (vi (nI h)), some (vi (nI x)), some (vi (nI r)), o4'] [] (rput B q M) = xZ T0 MI 161 35 [some (vr (some B)), some (vi (nI h)), some (vi (nI (x + cG q h r))), some (vi (nI (r + 1))), o4'] [] (rput B q M) := by
      intro x hx
      unfold cG
      simp (decide := true) (disch := omega) only [rq_161_114, rq_161_124, Option.bind_some, xasI, xasL, xasR, xin_t, cond_true, cond_false, nI_clamp, k_0, k_1, k_2, k_3, k_4, k_5, k_6, k_40, k_60, k_500, k_10000, pk_mul, nI_add, nI_e0, nI_ee, nI_leI, nI_ltI, xbool0, xbool1, xbn0, xbn1, xb_0, xb_1, reduceIte, one0, Option.isNone_none, ne_eq, not_true_eq_false, not_false_eq_true, if_true, if_false, ite_not, Bool.true_and, Bool.and_true, c_spot]
      by_cases e1 : q.1 15 (40 * h + r) = nI 2
      · rw [if_pos e1, if_pos (Or.inl e1)]
        simp (decide := true) (disch := omega) only [bq_161_143, bq_161_148, Option.bind_some, xasI, xasL, xasR, xin_t, cond_true, cond_false, nI_clamp, k_0, k_1, k_2, k_3, k_4, k_5, k_6, k_40, k_60, k_500, k_10000, pk_mul, nI_add, nI_e0, nI_ee, nI_leI, nI_ltI, xbool0, xbool1, xbn0, xbn1, xb_0, xb_1, reduceIte, one0, Option.isNone_none, ne_eq, not_true_eq_false, not_false_eq_true, if_true, if_false, ite_not, Bool.true_and, Bool.and_true]
      · rw [if_neg e1]
        simp (decide := true) (disch := omega) only [rq_161_129, rq_161_138, Option.bind_some, xasI, xasL, xasR, xin_t, cond_true, cond_false, nI_clamp, k_0, k_1, k_2, k_3, k_4, k_5, k_6, k_40, k_60, k_500, k_10000, pk_mul, nI_add, nI_e0, nI_ee, nI_leI, nI_ltI, xbool0, xbool1, xbn0, xbn1, xb_0, xb_1, reduceIte, one0, Option.isNone_none, ne_eq, not_true_eq_false, not_false_eq_true, if_true, if_false, ite_not, Bool.true_and, Bool.and_true, c_spot]
        by_cases e2 : q.1 15 (40 * h + r) = nI 3
        · rw [if_pos e2, if_pos (Or.inr e2)]
          simp (decide := true) (disch := omega) only [bq_161_143, bq_161_148, Option.bind_some, xasI, xasL, xasR, xin_t, cond_true, cond_false, nI_clamp, k_0, k_1, k_2, k_3, k_4, k_5, k_6, k_40, k_60, k_500, k_10000, pk_mul, nI_add, nI_e0, nI_ee, nI_leI, nI_ltI, xbool0, xbool1, xbn0, xbn1, xb_0, xb_1, reduceIte, one0, Option.isNone_none, ne_eq, not_true_eq_false, not_false_eq_true, if_true, if_false, ite_not, Bool.true_and, Bool.and_true]
        · rw [if_neg e2, if_neg (fun h => h.elim e1 e2)]
          simp (decide := true) (disch := omega) only [bq_161_147, bq_161_148, Option.bind_some, xasI, xasL, xasR, xin_t, cond_true, cond_false, nI_clamp, k_0, k_1, k_2, k_3, k_4, k_5, k_6, k_40, k_60, k_500, k_10000, pk_mul, nI_add, nI_e0, nI_ee, nI_leI, nI_ltI, xbool0, xbool1, xbn0, xbn1, xb_0, xb_1, reduceIte, one0, Option.isNone_none, ne_eq, not_true_eq_false, not_false_eq_true, if_true, if_false, ite_not, Bool.true_and, Bool.and_true]
    rw [g2, g1, g3 _ (by omega), e]
    show _ = xZ T0 MI 161 156 [some (vr (some B)), some (vi (nI h)), some (vi (nI (a + ((if h = 0 then cB q r else 0) + cG q h r + cS q h (r + 1) m)))), o3'', o4''] [] (rput B q M)
    rw [show a + (if h = 0 then cB q r else 0) + cG q h r + cS q h (r + 1) m = a + ((if h = 0 then cB q r else 0) + cG q h r + cS q h (r + 1) m) by omega]
/-! the book's letters -/
theorem gbeg_nef {q : xrho} {l r f : Nat} (h : f < 60 ∨ f = 65 ∨ 69 < f) (h2 : f ≠ 82) (h3 : f ≠ 72) : (gbeg q l r).1 f = q.1 f := by
  unfold gbeg
  rw [rup_ne _ _ _ _ h3, gnew_nef h h2]
theorem gbeg_82f (q : xrho) (l r : Nat) : (gbeg q l r).1 82 0 = nI (l + 1) := by unfold gbeg; rw [rup_ne _ _ _ _ (by decide), gnew_82f]
theorem gowedL_nef {q : xrho} {l r k f : Nat} (h : f < 60 ∨ f = 65 ∨ 69 < f) (h2 : f ≠ 82) : (gowedL q r k l).1 f = q.1 f := by
  unfold gowedL
  rw [gnew_nef h h2]
theorem gowedL_82f (q : xrho) (l r k : Nat) : (gowedL q r k l).1 82 0 = nI (l + 1) := by unfold gowedL; rw [gnew_82f]
theorem abkB_ne {q : xrho} {r f : Nat} (h : f < 60 ∨ f = 65 ∨ 69 < f) (h2 : f ≠ 82) (h3 : f ≠ 72) : (abkB q r).1 f = q.1 f := by
  unfold abkB
  split
  · rfl
  · exact gbeg_nef h h2 h3
theorem abkO_ne {q : xrho} {r k f : Nat} (h : f < 60 ∨ f = 65 ∨ 69 < f) (h2 : f ≠ 82) : (abkO q r k).1 f = q.1 f := by
  unfold abkO
  split
  · rfl
  · exact gowedL_nef h h2
theorem abk1_ne {q : xrho} {r f : Nat} (h : f < 60 ∨ f = 65 ∨ 69 < f) (h2 : f ≠ 82) (h3 : f ≠ 72) : (abk1 q r).1 f = q.1 f := by
  unfold abk1
  rw [abkO_ne h h2, abkO_ne h h2, abkO_ne h h2, abkO_ne h h2, abkB_ne h h2 h3]
theorem abkB_82 {q : xrho} {r l : Nat} (h : q.1 82 0 = nI l) (hl : l < 2000) : (abkB q r).1 82 0 = nI (l + cW q r) := by
  unfold abkB cW
  split
  · exact h
  · rw [gbeg_82f, nu_of h (by omega)]
theorem abkO_82 {q : xrho} {r k l : Nat} (h : q.1 82 0 = nI l) (hl : l < 2000) : (abkO q r k).1 82 0 = nI (l + cO q r k) := by
  unfold abkO cO
  split
  · exact h
  · rw [gowedL_82f, nu_of h (by omega)]
theorem cO_f {q z : xrho} {r k : Nat} (h : z.1 9 = q.1 9) : cO z r k = cO q r k := by unfold cO; rw [h]
theorem abk1_82 {q : xrho} {r l : Nat} (h : q.1 82 0 = nI l) (hl : l < 1900) : (abk1 q r).1 82 0 = nI (l + cB q r) := by
  unfold abk1 cB
  have b0 := cO_le q r 0
  have b1 := cO_le q r 1
  have b2 := cO_le q r 2
  have b4 := cW_le q r
  have h0 := abkB_82 (r := r) h (by omega)
  have h1 := abkO_82 (r := r) (k := 0) h0 (by omega)
  rw [cO_f (abkB_ne (by omega) (by omega) (by omega))] at h1
  have h2 := abkO_82 (r := r) (k := 1) h1 (by omega)
  rw [cO_f (abkO_ne (by omega) (by omega)), cO_f (abkB_ne (by omega) (by omega) (by omega))] at h2
  have h3 := abkO_82 (r := r) (k := 2) h2 (by omega)
  rw [cO_f (abkO_ne (by omega) (by omega)), cO_f (abkO_ne (by omega) (by omega)), cO_f (abkB_ne (by omega) (by omega) (by omega))] at h3
  have h4 := abkO_82 (r := r) (k := 3) h3 (by omega)
  rw [cO_f (abkO_ne (by omega) (by omega)), cO_f (abkO_ne (by omega) (by omega)), cO_f (abkO_ne (by omega) (by omega)), cO_f (abkB_ne (by omega) (by omega) (by omega))] at h4
  exact h4.trans (congrArg nI (by omega))
theorem c_bO {T0 MI B r k k' l : Nat} {q : xrho} {M : xM} {x1 x2 : Int32} (hr : r < 40) (hk : k < 4) (hk' : k + 1 = k') (hq : q.1 82 0 = nI l) (hl : l + cO q r k ≤ 1200) : xZ T0 MI 161 215 [some (vr (some B)), some (vi x1), some (vi x2), some (vi (nI r)), some (vi (nI k))] [] (rput B q M) = xZ T0 MI 161 215 [some (vr (some B)), some (vi x1), some (vi x2), some (vi (nI r)), some (vi (nI k'))] [] (rput B (abkO q r k) M) := by
  subst hk'
  rw [bq_161_215, if_neg (show ¬ (Int32.ofInt 4 ≤ nI k) by rw [k_4, nI_leI (by omega) (by omega)]; omega)]
  unfold abkO
  unfold cO at hl
  simp (decide := true) (disch := omega) only [rq_161_221, Option.bind_some, xasI, xasL, xasR, xin_t, cond_true, cond_false, nI_clamp, k_0, k_1, k_2, k_3, k_4, k_5, k_6, k_40, k_60, k_500, k_10000, pk_mul, nI_add, nI_e0, nI_ee, nI_leI, nI_ltI, xbool0, xbool1, xbn0, xbn1, xb_0, xb_1, reduceIte, one0, Option.isNone_none, ne_eq, not_true_eq_false, not_false_eq_true, if_true, if_false, ite_not, Bool.true_and, Bool.and_true]
  by_cases e : q.1 9 (4 * r + k) < 0
  · rw [if_pos e, if_pos e]
    simp (decide := true) (disch := omega) only [bq_161_242, Option.bind_some, xasI, xasL, xasR, xin_t, cond_true, cond_false, nI_clamp, k_0, k_1, k_2, k_3, k_4, k_5, k_6, k_40, k_60, k_500, k_10000, pk_mul, nI_add, nI_e0, nI_ee, nI_leI, nI_ltI, xbool0, xbool1, xbn0, xbn1, xb_0, xb_1, reduceIte, one0, Option.isNone_none, ne_eq, not_true_eq_false, not_false_eq_true, if_true, if_false, ite_not, Bool.true_and, Bool.and_true]
  · rw [if_neg e] at hl
    rw [if_neg e, if_neg e, nu_of hq (by omega), rq_161_235, c_sendsOwed hr hk (by omega) hq]
    simp (decide := true) (disch := omega) only [bq_161_242, Option.bind_some, xasI, xasL, xasR, xin_t, cond_true, cond_false, nI_clamp, k_0, k_1, k_2, k_3, k_4, k_5, k_6, k_40, k_60, k_500, k_10000, pk_mul, nI_add, nI_e0, nI_ee, nI_leI, nI_ltI, xbool0, xbool1, xbn0, xbn1, xb_0, xb_1, reduceIte, one0, Option.isNone_none, ne_eq, not_true_eq_false, not_false_eq_true, if_true, if_false, ite_not, Bool.true_and, Bool.and_true]
theorem c_bB {T0 MI B r l : Nat} {q : xrho} {M : xM} {x1 x2 : Int32} {o4 : Option xV} (hr : r < 40) (hq : q.1 82 0 = nI l) (hl : l + cW q r ≤ 1200) : xZ T0 MI 161 189 [some (vr (some B)), some (vi x1), some (vi x2), some (vi (nI r)), o4] [] (rput B q M) = xZ T0 MI 161 212 [some (vr (some B)), some (vi x1), some (vi x2), some (vi (nI r)), o4] [] (rput B (abkB q r) M) := by
  unfold abkB
  unfold cW at hl
  simp (decide := true) (disch := omega) only [rq_161_189, Option.bind_some, xasI, xasL, xasR, xin_t, cond_true, cond_false, nI_clamp, k_0, k_1, k_2, k_3, k_4, k_5, k_6, k_40, k_60, k_500, k_10000, pk_mul, nI_add, nI_e0, nI_ee, nI_leI, nI_ltI, xbool0, xbool1, xbn0, xbn1, xb_0, xb_1, reduceIte, one0, Option.isNone_none, ne_eq, not_true_eq_false, not_false_eq_true, if_true, if_false, ite_not, Bool.true_and, Bool.and_true]
  by_cases e : q.1 2 r = 0
  · rw [if_pos e, if_pos (Or.inl e)]
  · rw [if_neg e]
    simp (decide := true) (disch := omega) only [rq_161_198, Option.bind_some, xasI, xasL, xasR, xin_t, cond_true, cond_false, nI_clamp, k_0, k_1, k_2, k_3, k_4, k_5, k_6, k_40, k_60, k_500, k_10000, pk_mul, nI_add, nI_e0, nI_ee, nI_leI, nI_ltI, xbool0, xbool1, xbn0, xbn1, xb_0, xb_1, reduceIte, one0, Option.isNone_none, ne_eq, not_true_eq_false, not_false_eq_true, if_true, if_false, ite_not, Bool.true_and, Bool.and_true]
    by_cases e2 : q.1 7 r < 0
    · rw [if_pos e2, if_pos (Or.inr e2)]
    · rw [if_neg (fun h => h.elim e e2)] at hl
      rw [if_neg e2, if_neg (fun h => h.elim e e2), nu_of hq (by omega), rq_161_207, c_begins (by omega) hr hq]
      simp (decide := true) (disch := omega) only [Option.bind_some, xasI, xasL, xasR, xin_t, cond_true, cond_false, nI_clamp, k_0, k_1, k_2, k_3, k_4, k_5, k_6, k_40, k_60, k_500, k_10000, pk_mul, nI_add, nI_e0, nI_ee, nI_leI, nI_ltI, xbool0, xbool1, xbn0, xbn1, xb_0, xb_1, reduceIte, one0, Option.isNone_none, ne_eq, not_true_eq_false, not_false_eq_true, if_true, if_false, ite_not, Bool.true_and, Bool.and_true]
theorem c_b1 {T0 MI B r l : Nat} {q : xrho} {M : xM} {x1 x2 : Int32} {o4 : Option xV} (hr : r < 40) (hq : q.1 82 0 = nI l) (hl : l + cB q r ≤ 1200) : xZ T0 MI 161 189 [some (vr (some B)), some (vi x1), some (vi x2), some (vi (nI r)), o4] [] (rput B q M) = xZ T0 MI 161 248 [some (vr (some B)), some (vi x1), some (vi x2), some (vi (nI r)), some (vi (nI 4))] [] (rput B (abk1 q r) M) := by
  unfold abk1
  unfold cB at hl
  have h0 := abkB_82 (r := r) hq (by omega)
  have h1 := abkO_82 (r := r) (k := 0) h0 (by omega)
  have k0 : cO (abkB q r) r 0 = cO q r 0 := cO_f (abkB_ne (by omega) (by omega) (by omega))
  rw [k0] at h1
  have h2 := abkO_82 (r := r) (k := 1) h1 (by omega)
  have k1 : cO (abkO (abkB q r) r 0) r 1 = cO q r 1 := by rw [cO_f (abkO_ne (by omega) (by omega)), cO_f (abkB_ne (by omega) (by omega) (by omega))]
  rw [k1] at h2
  have h3 := abkO_82 (r := r) (k := 2) h2 (by omega)
  have k2 : cO (abkO (abkO (abkB q r) r 0) r 1) r 2 = cO q r 2 := by rw [cO_f (abkO_ne (by omega) (by omega)), cO_f (abkO_ne (by omega) (by omega)), cO_f (abkB_ne (by omega) (by omega) (by omega))]
  rw [k2] at h3
  have k3 : cO (abkO (abkO (abkO (abkB q r) r 0) r 1) r 2) r 3 = cO q r 3 := by rw [cO_f (abkO_ne (by omega) (by omega)), cO_f (abkO_ne (by omega) (by omega)), cO_f (abkO_ne (by omega) (by omega)), cO_f (abkB_ne (by omega) (by omega) (by omega))]
  rw [c_bB hr hq (by omega), bq_161_212, k_0, c_bO (k := 0) (k' := 1) hr (by omega) rfl h0 (by rw [k0]; omega), c_bO (k := 1) (k' := 2) hr (by omega) rfl h1 (by rw [k1]; omega), c_bO (k := 2) (k' := 3) hr (by omega) rfl h2 (by rw [k2]; omega), c_bO (k := 3) (k' := 4) hr (by omega) rfl h3 (by rw [k3]; omega), bq_161_215, if_pos (by decide)]
theorem cB_f {q z : xrho} {r : Nat} (h : z.1 9 = q.1 9) (h2 : z.1 2 = q.1 2) (h7 : z.1 7 = q.1 7) : cB z r = cB q r := by
  unfold cB cW
  rw [cO_f h, cO_f h, cO_f h, cO_f h, h2, h7]
theorem cBs_f {q z : xrho} (h : z.1 9 = q.1 9) (h2 : z.1 2 = q.1 2) (h7 : z.1 7 = q.1 7) : ∀ m r, cBs z r m = cBs q r m
  | 0, _ => rfl
  | m + 1, r => by unfold cBs; rw [cB_f h h2 h7, cBs_f h h2 h7 m]
theorem c_stepB {T0 MI B n : Nat} {M : xM} {x2 : Int32} (hn : n ≤ 40) : ∀ m r, r + m = n → ∀ (q : xrho) (l : Nat) (o4 : Option xV), q.1 12 0 = nI n → q.1 82 0 = nI l → l + cBs q r m ≤ 1200 → ∃ o3' o4', xZ T0 MI 161 177 [some (vr (some B)), some (vi (nI 0)), some (vi x2), some (vi (nI r)), o4] [] (rput B q M) = xZ T0 MI 161 254 [some (vr (some B)), some (vi (nI 0)), some (vi x2), o3', o4'] [] (rput B (abks r m q) M) := by
  intro m
  induction m with
  | zero =>
    intro r hr q l o4 h12 h82 hl
    refine ⟨some (vi (nI r)), o4, ?_⟩
    simp (decide := true) (disch := omega) only [rq_161_177, Option.bind_some, xasI, xasL, xasR, xin_t, cond_true, cond_false, nI_clamp, k_0, k_1, k_2, k_3, k_4, k_5, k_6, k_40, k_60, k_500, k_10000, pk_mul, nI_add, nI_e0, nI_ee, nI_leI, nI_ltI, xbool0, xbool1, xbn0, xbn1, xb_0, xb_1, reduceIte, one0, Option.isNone_none, ne_eq, not_true_eq_false, not_false_eq_true, if_true, if_false, ite_not, Bool.true_and, Bool.and_true, h12]
    rw [if_pos (by omega)]
    rfl
  | succ m ih =>
    intro r hr q l o4 h12 h82 hl
    unfold cBs at hl
    obtain ⟨o3', o4', e⟩ := ih (r + 1) (by omega) (abk1 q r) (l + cB q r) (some (vi (nI 4))) (by rw [abk1_ne (by omega) (by omega) (by omega)]; exact h12) (abk1_82 h82 (by omega)) (by rw [cBs_f (abk1_ne (by omega) (by omega) (by omega)) (abk1_ne (by omega) (by omega) (by omega)) (abk1_ne (by omega) (by omega) (by omega))]; omega)
    refine ⟨o3', o4', ?_⟩
    have g : xZ T0 MI 161 177 [some (vr (some B)), some (vi (nI 0)), some (vi x2), some (vi (nI r)), o4] [] (rput B q M) = xZ T0 MI 161 189 [some (vr (some B)), some (vi (nI 0)), some (vi x2), some (vi (nI r)), o4] [] (rput B q M) := by
      simp (decide := true) (disch := omega) only [rq_161_177, bq_161_185, Option.bind_some, xasI, xasL, xasR, xin_t, cond_true, cond_false, nI_clamp, k_0, k_1, k_2, k_3, k_4, k_5, k_6, k_40, k_60, k_500, k_10000, pk_mul, nI_add, nI_e0, nI_ee, nI_leI, nI_ltI, xbool0, xbool1, xbn0, xbn1, xb_0, xb_1, reduceIte, one0, Option.isNone_none, ne_eq, not_true_eq_false, not_false_eq_true, if_true, if_false, ite_not, Bool.true_and, Bool.and_true, h12]
      rw [if_neg (by omega)]
    rw [g, c_b1 (by omega) h82 (by omega), bq_161_248, nI_s, e]
    rfl
theorem abks_82 : ∀ m r (q : xrho) (l : Nat), q.1 82 0 = nI l → l + cBs q r m ≤ 1200 → (abks r m q).1 82 0 = nI (l + cBs q r m)
  | 0, _, _, _, h, _ => h
  | m + 1, r, q, l, h, hl => by
    unfold cBs at hl ⊢
    unfold abks
    have := cBs_f (q := q) (z := abk1 q r) (abk1_ne (by omega) (by omega) (by omega)) (abk1_ne (by omega) (by omega) (by omega)) (abk1_ne (by omega) (by omega) (by omega)) m (r + 1)
    rw [abks_82 m (r + 1) (abk1 q r) (l + cB q r) (abk1_82 h (by omega)) (by omega), this, Nat.add_assoc]
theorem abks_ne {f : Nat} (h : f < 60 ∨ f = 65 ∨ 69 < f) (h2 : f ≠ 82) (h3 : f ≠ 72) : ∀ m r (q : xrho), (abks r m q).1 f = q.1 f
  | 0, _, _ => rfl
  | m + 1, r, q => by unfold abks; rw [abks_ne h h2 h3 m, abk1_ne h h2 h3]
theorem abkO_LX {q : xrho} {L : xLs} {r k : Nat} (h : LX q L) : LX (abkO q r k) L := by
  unfold abkO
  split
  · exact h
  · exact gnew_LX h
theorem abks_LX {L : xLs} : ∀ m r (q : xrho), LX q L → LX (abks r m q) L
  | 0, _, _, h => h
  | m + 1, r, q, h => by
    unfold abks
    refine abks_LX m (r + 1) _ ?_
    refine abkO_LX (abkO_LX (abkO_LX (abkO_LX ?_)))
    unfold abkB
    split
    · exact h
    · exact LX_up rfl (gnew_LX h)
