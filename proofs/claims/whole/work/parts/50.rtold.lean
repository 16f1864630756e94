/-! THE REFERENCE'S answered, old, begun, took -/
def gheardA (q : xrho) (l c : Nat) : xrho := if q.1 54 c = 0 then rup (rupL (rup q 54 c (nI 1)) 53 c (q.2 77 (3 * l))) 49 c (q.1 73 l) else q
theorem c_answered {T0 MI B l c n : Nat} {q : xrho} {M : xM} {o2 : Option xV} (hl : l < 1200) (h61 : q.1 61 l = nI c) (hc : c < 6) (h66 : q.1 66 l = nI n) (hn : n < 60) : xZ T0 MI 178 0 [some (vr (some B)), some (vi (nI l)), o2] [] (rput B q M) = some (none, rput B (gheardA q l (60 * c + n)) M) := by
  unfold gheardA
  simp (decide := true) (disch := omega) only [rq_178_0, Option.bind_some, xasI, xasL, xasR, xin_t, cond_true, cond_false, nI_clamp, k_0, k_1, k_2, k_3, k_4, k_5, k_6, k_40, k_60, k_500, k_10000, pk_mul, nI_add, nI_e0, nI_ee, nI_leI, nI_ltI, xbool0, xbool1, xbn0, xbn1, xb_0, xb_1, reduceIte, one0, Option.isNone_none, ne_eq, not_true_eq_false, not_false_eq_true, if_true, if_false, ite_not, Bool.true_and, Bool.and_true, h61, h66]
  by_cases e : q.1 54 (60 * c + n) = 0
  · rw [if_pos e, if_pos e]
    simp (decide := true) (disch := omega) only [rq_178_27, Option.bind_some, xasI, xasL, xasR, xin_t, cond_true, cond_false, nI_clamp, k_0, k_1, k_2, k_3, k_4, k_5, k_6, k_40, k_60, k_500, k_10000, pk_mul, nI_add, nI_e0, nI_ee, nI_leI, nI_ltI, xbool0, xbool1, xbn0, xbn1, xb_0, xb_1, reduceIte, one0, Option.isNone_none, ne_eq, not_true_eq_false, not_false_eq_true, if_true, if_false, ite_not, Bool.true_and, Bool.and_true]
    rfl
  · rw [if_neg e, if_neg e, bq_178_26]
/-! old -/
def newr (q : xrho) (e : Int32) (c : Nat) : Nat → Nat → Bool
  | _, 0 => true
  | k, m + 1 => decide (q.1 56 (10000 * c + k) < e) && newr q e c (k + 1) m
theorem c_old_1 {T0 MI B l c to : Nat} {q : xrho} {M : xM} {x3 : Int32} {o7 o8 : Option xV} (hl : l < 1200) (hc : c < 6) (hto : to ≤ 10000) : ∀ m k, k + m = to → ∃ o6', xZ T0 MI 179 44 [some (vr (some B)), some (vi (nI l)), some (vi (nI (10000 * c))), some (vi x3), some (vi (nI to)), some (vi (nI 1)), some (vi (nI k)), o7, o8] [] (rput B q M) = xZ T0 MI 179 87 [some (vr (some B)), some (vi (nI l)), some (vi (nI (10000 * c))), some (vi x3), some (vi (nI to)), some (vi (zI (newr q (q.1 64 l) c k m))), o6', o7, o8] [] (rput B q M) := by
  intro m
  induction m with
  | zero =>
    intro k hk
    refine ⟨some (vi (nI k)), ?_⟩
    rw [bq_179_44, if_pos (by rw [nI_leI (by omega) (by omega)]; omega)]
    rfl
  | succ m ih =>
    intro k hk
    rw [bq_179_44, if_neg (by rw [nI_leI (by omega) (by omega)]; omega), bq_179_51, if_neg (by decide)]
    simp (decide := true) (disch := omega) only [rq_179_56, Option.bind_some, xasI, xasL, xasR, xin_t, cond_true, cond_false, nI_clamp, k_0, k_1, k_2, k_3, k_4, k_5, k_6, k_40, k_60, k_500, k_10000, pk_mul, nI_add, nI_e0, nI_ee, nI_leI, nI_ltI, xbool0, xbool1, xbn0, xbn1, xb_0, xb_1, reduceIte, one0, Option.isNone_none, ne_eq, not_true_eq_false, not_false_eq_true, if_true, if_false, ite_not, Bool.true_and, Bool.and_true]
    unfold newr
    by_cases e : q.1 56 (10000 * c + k) < q.1 64 l
    · rw [if_neg (Int32.not_le.mpr e), bq_179_74, bq_179_79, nI_s, k_1]
      obtain ⟨o6', h⟩ := ih (k + 1) (by omega)
      refine ⟨o6', ?_⟩
      rw [h, show decide (q.1 56 (10000 * c + k) < q.1 64 l) = true by simp [e], Bool.true_and]
    · rw [if_pos (Int32.not_lt.mp e), bq_179_78, bq_179_79, nI_s, k_0, show decide (q.1 56 (10000 * c + k) < q.1 64 l) = false by simp [e], Bool.false_and]
      refine ⟨some (vi (nI (k + 1))), ?_⟩
      rw [bq_179_44]
      by_cases e2 : nI to ≤ nI (k + 1)
      · rw [if_pos e2]; rfl
      · rw [if_neg e2, bq_179_51, if_pos (by decide)]; rfl
def fil1 (f : Nat) (q : xrho) (a z : Nat) (v : Int32) : xrho := (va_up q.1 f (filK (q.1 f) a z v), q.2)
theorem fil1_0 (f : Nat) (q : xrho) (a : Nat) (v : Int32) : fil1 f q a a v = q := by
  unfold fil1
  rw [filK_0, va_up_id]
theorem fil1_s (f : Nat) (q : xrho) {a z : Nat} (h : a ≤ z) (v : Int32) : rup (fil1 f q a z v) f z v = fil1 f q a (z + 1) v := by
  unfold rup fil1
  dsimp only
  rw [va_up_self, filK_step _ h, va_up_up]
theorem c_old_2 {T0 MI B c fr : Nat} {q : xrho} {M : xM} {x1 x4 x7 : Int32} {o5 o6 : Option xV} {a : Nat} (hc : c < 6) (hf : fr ≤ 10000) : ∀ m k, k + m = fr → a ≤ k → xZ T0 MI 179 120 [some (vr (some B)), some (vi x1), some (vi (nI (10000 * c))), some (vi (nI fr)), some (vi x4), o5, o6, some (vi x7), some (vi (nI k))] [] (rput B (fil1 59 q (10000 * c + a) (10000 * c + k) (nI fr)) M) = xZ T0 MI 179 142 [some (vr (some B)), some (vi x1), some (vi (nI (10000 * c))), some (vi (nI fr)), some (vi x4), o5, o6, some (vi x7), some (vi (nI fr))] [] (rput B (fil1 59 q (10000 * c + a) (10000 * c + fr) (nI fr)) M) := by
  intro m
  induction m with
  | zero =>
    intro k hk ha
    have : k = fr := by omega
    subst this
    rw [bq_179_120, if_pos (Int32.le_refl _)]
  | succ m ih =>
    intro k hk ha
    rw [bq_179_120, if_neg (by rw [nI_leI (by omega) (by omega)]; omega)]
    simp (decide := true) (disch := omega) only [rq_179_126, Option.bind_some, xasI, xasL, xasR, xin_t, cond_true, cond_false, nI_clamp, k_0, k_1, k_2, k_3, k_4, k_5, k_6, k_40, k_60, k_500, k_10000, pk_mul, nI_add, nI_e0, nI_ee, nI_leI, nI_ltI, xbool0, xbool1, xbn0, xbn1, xb_0, xb_1, reduceIte, one0, Option.isNone_none, ne_eq, not_true_eq_false, not_false_eq_true, if_true, if_false, ite_not, Bool.true_and, Bool.and_true]
    rw [fil1_s _ _ (by omega)]
    exact ih (k + 1) (by omega) (by omega)
theorem c_old_3 {T0 MI B c la : Nat} {q : xrho} {M : xM} {x1 x3 : Int32} {o5 o6 : Option xV} {a : Nat} (hc : c < 6) (hf : la ≤ 10000) : ∀ m k, k + m = la → a ≤ k → xZ T0 MI 179 146 [some (vr (some B)), some (vi x1), some (vi (nI (10000 * c))), some (vi x3), some (vi (nI a)), o5, o6, some (vi (nI la)), some (vi (nI k))] [] (rput B (fil1 58 q (10000 * c + a) (10000 * c + k) (nI a)) M) = xZ T0 MI 179 170 [some (vr (some B)), some (vi x1), some (vi (nI (10000 * c))), some (vi x3), some (vi (nI a)), o5, o6, some (vi (nI la)), some (vi (nI la))] [] (rput B (fil1 58 q (10000 * c + a) (10000 * c + la) (nI a)) M) := by
  intro m
  induction m with
  | zero =>
    intro k hk ha
    have : k = la := by omega
    subst this
    rw [bq_179_146, if_pos (Int32.le_refl _)]
  | succ m ih =>
    intro k hk ha
    rw [bq_179_146, if_neg (by rw [nI_leI (by omega) (by omega)]; omega)]
    simp (decide := true) (disch := omega) only [rq_179_153, Option.bind_some, xasI, xasL, xasR, xin_t, cond_true, cond_false, nI_clamp, k_0, k_1, k_2, k_3, k_4, k_5, k_6, k_40, k_60, k_500, k_10000, pk_mul, nI_add, nI_e0, nI_ee, nI_leI, nI_ltI, xbool0, xbool1, xbn0, xbn1, xb_0, xb_1, reduceIte, one0, Option.isNone_none, ne_eq, not_true_eq_false, not_false_eq_true, if_true, if_false, ite_not, Bool.true_and, Bool.and_true]
    rw [fil1_s _ _ (by omega)]
    exact ih (k + 1) (by omega) (by omega)
/-- the copy put right -/
def goldq (q : xrho) (c fr to fi la : Nat) (r e h : Int32) : xrho := cps (fil1 58 (fil1 59 q (10000 * c + fi) (10000 * c + fr) (nI fr)) (10000 * c + to) (10000 * c + la) (nI to)) (10000 * c + fr) (10000 * c + to) r e h (nI fr) (nI to)
def gold (q : xrho) (l : Nat) : xrho := if q.1 63 l = Int32.ofInt (-9) then q else if newr q (q.1 64 l) (nu q 61 l) (nu q 70 l) (nu q 71 l - nu q 70 l) = true then goldq q (nu q 61 l) (nu q 70 l) (nu q 71 l) (nu q 58 (10000 * nu q 61 l + nu q 70 l)) (nu q 59 (10000 * nu q 61 l + (nu q 71 l - 1))) (q.1 63 l) (q.1 64 l) (q.1 72 l) else q
theorem c_old {T0 MI B l : Nat} {q : xrho} {M : xM} {o2 o3 o4 o5 o6 o7 o8 : Option xV} (hl : l < 1200) (h61 : isN q 61 l 5) (h70 : q.1 63 l ≠ Int32.ofInt (-9) → isN q 70 l 9999 ∧ isN q 71 l 10000 ∧ nu q 70 l < nu q 71 l ∧ isN q 58 (10000 * nu q 61 l + nu q 70 l) 10000 ∧ nu q 58 (10000 * nu q 61 l + nu q 70 l) ≤ nu q 70 l ∧ isN q 59 (10000 * nu q 61 l + (nu q 71 l - 1)) 10000 ∧ nu q 71 l ≤ nu q 59 (10000 * nu q 61 l + (nu q 71 l - 1))) : xZ T0 MI 179 0 [some (vr (some B)), some (vi (nI l)), o2, o3, o4, o5, o6, o7, o8] [] (rput B q M) = some (none, rput B (gold q l) M) := by
  have b61 := h61.2
  unfold gold
  simp (decide := true) (disch := omega) only [rq_179_0, Option.bind_some, xasI, xasL, xasR, xin_t, cond_true, cond_false, nI_clamp, k_0, k_1, k_2, k_3, k_4, k_5, k_6, k_40, k_60, k_500, k_10000, pk_mul, nI_add, nI_e0, nI_ee, nI_leI, nI_ltI, xbool0, xbool1, xbn0, xbn1, xb_0, xb_1, reduceIte, one0, Option.isNone_none, ne_eq, not_true_eq_false, not_false_eq_true, if_true, if_false, ite_not, Bool.true_and, Bool.and_true]
  by_cases a1 : q.1 63 l = Int32.ofInt (-9)
  · rw [if_pos a1, if_pos a1, bq_179_11]
  · rw [if_neg a1, if_neg a1]
    obtain ⟨h70, h71, hlt, h58, h58b, h59, h59b⟩ := h70 a1
    have b70 := h70.2
    have b71 := h71.2
    have b59 := h59.2
    obtain ⟨o6', e1⟩ := c_old_1 (T0 := T0) (MI := MI) (B := B) (M := M) (q := q) (x3 := nI (nu q 70 l)) (o7 := o7) (o8 := o8) hl (show nu q 61 l < 6 by omega) h71.2 (nu q 71 l - nu q 70 l) (nu q 70 l) (by omega)
    simp (decide := true) (disch := omega) only [rq_179_12, Option.bind_some, xasI, xasL, xasR, xin_t, cond_true, cond_false, nI_clamp, k_0, k_1, k_2, k_3, k_4, k_5, k_6, k_40, k_60, k_500, k_10000, pk_mul, nI_add, nI_e0, nI_ee, nI_leI, nI_ltI, xbool0, xbool1, xbn0, xbn1, xb_0, xb_1, reduceIte, one0, Option.isNone_none, ne_eq, not_true_eq_false, not_false_eq_true, if_true, if_false, ite_not, Bool.true_and, Bool.and_true, h61.1, h70.1, h71.1]
    rw [e1]
    by_cases a2 : newr q (q.1 64 l) (nu q 61 l) (nu q 70 l) (nu q 71 l - nu q 70 l) = true
    · rw [if_pos a2, a2, bq_179_87, zI_t, if_neg (by decide)]
      have e59 : ∀ x : Nat, 10000 * nu q 61 l + nu q 71 l - 1 = 10000 * nu q 61 l + (nu q 71 l - 1) := fun _ => by omega
      rw [rq_179_93]
      simp (decide := true) (disch := omega) only [Option.bind_some, xasI, xasL, xasR, xin_t, cond_true, cond_false, nI_clamp, k_0, k_1, k_2, k_3, k_4, k_5, k_6, k_40, k_60, k_500, k_10000, pk_mul, nI_add, nI_e0, nI_ee, nI_leI, nI_ltI, xbool0, xbool1, xbn0, xbn1, xb_0, xb_1, reduceIte, one0, Option.isNone_none, ne_eq, not_true_eq_false, not_false_eq_true, if_true, if_false, ite_not, Bool.true_and, Bool.and_true]
      rw [show nI (10000 * nu q 61 l + nu q 71 l) - nI 1 = nI (10000 * nu q 61 l + (nu q 71 l - 1)) by
        rw [show 10000 * nu q 61 l + nu q 71 l = (10000 * nu q 61 l + (nu q 71 l - 1)) + 1 by omega, nI_s1]]
      simp (decide := true) (disch := omega) only [Option.bind_some, xasI, xasL, xasR, xin_t, cond_true, cond_false, nI_clamp, k_0, k_1, k_2, k_3, k_4, k_5, k_6, k_40, k_60, k_500, k_10000, pk_mul, nI_add, nI_e0, nI_ee, nI_leI, nI_ltI, xbool0, xbool1, xbn0, xbn1, xb_0, xb_1, reduceIte, one0, Option.isNone_none, ne_eq, not_true_eq_false, not_false_eq_true, if_true, if_false, ite_not, Bool.true_and, Bool.and_true, h58.1, h59.1]
      have e2 := c_old_2 (T0 := T0) (MI := MI) (B := B) (M := M) (q := q) (c := nu q 61 l) (fr := nu q 70 l) (x1 := nI l) (x4 := nI (nu q 71 l)) (x7 := nI (nu q 59 (10000 * nu q 61 l + (nu q 71 l - 1)))) (o5 := xinv (some (vi 1))) (o6 := some (vi (nI (nu q 58 (10000 * nu q 61 l + nu q 70 l))))) (a := nu q 58 (10000 * nu q 61 l + nu q 70 l)) (by omega) (by omega) (nu q 70 l - nu q 58 (10000 * nu q 61 l + nu q 70 l)) (nu q 58 (10000 * nu q 61 l + nu q 70 l)) (by omega) (Nat.le_refl _)
      rw [fil1_0] at e2
      have e3 := c_old_3 (T0 := T0) (MI := MI) (B := B) (M := M) (q := fil1 59 q (10000 * nu q 61 l + nu q 58 (10000 * nu q 61 l + nu q 70 l)) (10000 * nu q 61 l + nu q 70 l) (nI (nu q 70 l))) (c := nu q 61 l) (la := nu q 59 (10000 * nu q 61 l + (nu q 71 l - 1))) (x1 := nI l) (x3 := nI (nu q 70 l)) (o5 := xinv (some (vi 1))) (o6 := some (vi (nI (nu q 58 (10000 * nu q 61 l + nu q 70 l))))) (a := nu q 71 l) (by omega) (by omega) (nu q 59 (10000 * nu q 61 l + (nu q 71 l - 1)) - nu q 71 l) (nu q 71 l) (by omega) (Nat.le_refl _)
      rw [fil1_0] at e3
      rw [e2, bq_179_142, e3]
      have g61 : (fil1 58 (fil1 59 q (10000 * nu q 61 l + nu q 58 (10000 * nu q 61 l + nu q 70 l)) (10000 * nu q 61 l + nu q 70 l) (nI (nu q 70 l))) (10000 * nu q 61 l + nu q 71 l) (10000 * nu q 61 l + nu q 59 (10000 * nu q 61 l + (nu q 71 l - 1))) (nI (nu q 71 l))).1 61 l = nI (nu q 61 l) := h61.1
      rw [rq_179_170]
      simp (decide := true) (disch := omega) only [Option.bind_some, xasI, xasL, xasR, xin_t, cond_true, cond_false, nI_clamp, k_0, k_1, k_2, k_3, k_4, k_5, k_6, k_40, k_60, k_500, k_10000, pk_mul, nI_add, nI_e0, nI_ee, nI_leI, nI_ltI, xbool0, xbool1, xbn0, xbn1, xb_0, xb_1, reduceIte, one0, Option.isNone_none, ne_eq, not_true_eq_false, not_false_eq_true, if_true, if_false, ite_not, Bool.true_and, Bool.and_true, g61]
      rw [c_copies (by omega) (by omega) (by omega)]
      simp (decide := true) (disch := omega) only [bq_179_201, Option.bind_some, xasI, xasL, xasR, xin_t, cond_true, cond_false, nI_clamp, k_0, k_1, k_2, k_3, k_4, k_5, k_6, k_40, k_60, k_500, k_10000, pk_mul, nI_add, nI_e0, nI_ee, nI_leI, nI_ltI, xbool0, xbool1, xbn0, xbn1, xb_0, xb_1, reduceIte, one0, Option.isNone_none, ne_eq, not_true_eq_false, not_false_eq_true, if_true, if_false, ite_not, Bool.true_and, Bool.and_true]
      rfl
    · have a3 : newr q (q.1 64 l) (nu q 61 l) (nu q 70 l) (nu q 71 l - nu q 70 l) = false := by simpa using a2
      rw [if_neg a2, a3, bq_179_87, zI_f, if_pos rfl, bq_179_92]
/-! begun -/
def gbgq (q : xrho) (l p : Nat) : xrho := rup (rup (rup (rup (rup (rup q 15 p (nI 2)) 21 p (q.1 72 l)) 22 p (nI 1)) 23 p (nI 0)) 32 p (nI 1)) 33 p (nI 0)
def sndL (R : RW) : List Int32 := (R.map Prod.fst).foldl addK []
def abeg (q : xrho) (L : xLs) (l p : Nat) : xrho × xLs := if q.1 15 p = nI 1 ∧ q.1 18 p = q.1 64 l - nI 1 then (gbgq q l p, L.1, va_up L.2.1 p (sndL (L.1 p)), L.2.2.1, L.2.2.2) else (q, L)
theorem c_begun {T0 MI B l p : Nat} {q : xrho} {L : xLs} {M : xM} (h0 : LX q L) (hl : l < 1200) (hp : p < 240) : ∃ q', xZ T0 MI 180 0 [some (vr (some B)), some (vi (nI l)), some (vi (nI p))] [] (rput B q M) = some (none, rput B q' M) ∧ fl2 (abeg q L l p).1 q' ∧ LX q' (abeg q L l p).2 := by
  unfold abeg
  simp (decide := true) (disch := omega) only [rq_180_0, Option.bind_some, xasI, xasL, xasR, xin_t, cond_true, cond_false, nI_clamp, k_0, k_1, k_2, k_3, k_4, k_5, k_6, k_40, k_60, k_500, k_10000, pk_mul, nI_add, nI_e0, nI_ee, nI_leI, nI_ltI, xbool0, xbool1, xbn0, xbn1, xb_0, xb_1, reduceIte, one0, Option.isNone_none, ne_eq, not_true_eq_false, not_false_eq_true, if_true, if_false, ite_not, Bool.true_and, Bool.and_true]
  by_cases a1 : q.1 15 p = nI 1
  · rw [if_pos a1]
    simp (decide := true) (disch := omega) only [rq_180_10, Option.bind_some, xasI, xasL, xasR, xin_t, cond_true, cond_false, nI_clamp, k_0, k_1, k_2, k_3, k_4, k_5, k_6, k_40, k_60, k_500, k_10000, pk_mul, nI_add, nI_e0, nI_ee, nI_leI, nI_ltI, xbool0, xbool1, xbn0, xbn1, xb_0, xb_1, reduceIte, one0, Option.isNone_none, ne_eq, not_true_eq_false, not_false_eq_true, if_true, if_false, ite_not, Bool.true_and, Bool.and_true]
    by_cases a2 : q.1 18 p = q.1 64 l - nI 1
    · have l1 : LX (gbgq q l p) L := LX_up rfl (LX_up rfl (LX_up rfl (LX_up rfl (LX_up rfl (LX_up rfl h0)))))
      obtain ⟨q', e, f, l2⟩ := c_owesAllL (T0 := T0) (MI := MI) (B := B) (M := M) (o2 := none) l1.1 hp
      rw [if_pos a2, if_pos ⟨a1, a2⟩]
      refine ⟨q', ?_, fl2_of f, LX_of l1 f l2⟩
      rw [rq_180_28]
      simp (decide := true) (disch := omega) only [Option.bind_some, xasI, xasL, xasR, xin_t, cond_true, cond_false, nI_clamp, k_0, k_1, k_2, k_3, k_4, k_5, k_6, k_40, k_60, k_500, k_10000, pk_mul, nI_add, nI_e0, nI_ee, nI_leI, nI_ltI, xbool0, xbool1, xbn0, xbn1, xb_0, xb_1, reduceIte, one0, Option.isNone_none, ne_eq, not_true_eq_false, not_false_eq_true, if_true, if_false, ite_not, Bool.true_and, Bool.and_true]
      show (xZ T0 MI 135 0 [some (vr (some B)), some (vi (nI p)), none] [] (rput B (gbgq q l p) M)).bind _ = _
      rw [e]
      simp (decide := true) (disch := omega) only [bq_180_80, Option.bind_some, xasI, xasL, xasR, xin_t, cond_true, cond_false, nI_clamp, k_0, k_1, k_2, k_3, k_4, k_5, k_6, k_40, k_60, k_500, k_10000, pk_mul, nI_add, nI_e0, nI_ee, nI_leI, nI_ltI, xbool0, xbool1, xbn0, xbn1, xb_0, xb_1, reduceIte, one0, Option.isNone_none, ne_eq, not_true_eq_false, not_false_eq_true, if_true, if_false, ite_not, Bool.true_and, Bool.and_true]
    · rw [if_neg a2, if_neg (fun h => a2 h.2)]
      exact ⟨q, bq_180_27 _ _ _ _ _ _, fl2_rf q, h0⟩
  · rw [if_neg a1, if_neg (fun h => a1 h.1)]
    exact ⟨q, bq_180_27 _ _ _ _ _ _, fl2_rf q, h0⟩
/-! took -/
def gtkA (q : xrho) (p : Nat) : xrho := rup (rup (rup (rup q 15 p (nI 2)) 22 p (q.1 22 p + nI 1)) 23 p (nI 0)) 32 p (nI 1)
def gtkB (q : xrho) (p : Nat) : xrho := rup (rup q 32 p (nI 1)) 23 p (q.1 23 p + nI 1)
def atook (q : xrho) (L : xLs) (l h r : Nat) : xrho × xLs :=
  if gheard q l (40 * h + r) then
    if 0 ≤ q.1 68 l then
      if q.1 32 (40 * h + r) = 0 ∧ q.1 68 l = q.1 23 (40 * h + r) then
        (if q.1 28 (40 * h + r) < 0 then gnew (rup (gtkB q (40 * h + r)) 33 (40 * h + r) (nI 1)) (nu q 82 0) (nI 6) (nI 0) (nI h) (nI r) (q.1 64 l) else gtkB q (40 * h + r), L)
      else (q, L)
    else if q.1 33 (40 * h + r) = 0 then (gtkA q (40 * h + r), L.1, va_up L.2.1 (40 * h + r) (sndL (L.1 (40 * h + r))), L.2.2.1, L.2.2.2)
    else (q, L)
  else (q, L)
theorem c_took {T0 MI B l h r : Nat} {q : xrho} {L : xLs} {M : xM} {o5 : Option xV} (h0 : LX q L) (hl : l < 1200) (hh : h < 6) (hr : r < 40) (h82 : isN q 82 0 1199) : ∃ q', xZ T0 MI 183 0 [some (vr (some B)), some (vi (nI l)), some (vi (nI h)), some (vi (nI r)), some (vi (nI (40 * h + r))), o5] [] (rput B q M) = some (none, rput B q' M) ∧ fl2 (atook q L l h r).1 q' ∧ LX q' (atook q L l h r).2 := by
  have b82 := h82.2
  have hp : 40 * h + r < 240 := by omega
  unfold atook
  rw [rq_183_0, c_isHeard hl hp]
  by_cases a1 : gheard q l (40 * h + r)
  case neg =>
    rw [if_neg a1, if_neg a1]
    refine ⟨q, ?_, fl2_rf q, h0⟩
    simp (decide := true) (disch := omega) only [bq_183_7, bq_183_10, Option.bind_some, xasI, xasL, xasR, xin_t, cond_true, cond_false, nI_clamp, k_0, k_1, k_2, k_3, k_4, k_5, k_6, k_40, k_60, k_500, k_10000, pk_mul, nI_add, nI_e0, nI_ee, nI_leI, nI_ltI, xbool0, xbool1, xbn0, xbn1, xb_0, xb_1, reduceIte, one0, Option.isNone_none, ne_eq, not_true_eq_false, not_false_eq_true, if_true, if_false, ite_not, Bool.true_and, Bool.and_true]
  rw [if_pos a1, if_pos a1]
  by_cases a2 : 0 ≤ q.1 68 l
  · rw [if_pos a2]
    by_cases a3 : q.1 32 (40 * h + r) = 0 ∧ q.1 68 l = q.1 23 (40 * h + r)
    · rw [if_pos a3]
      by_cases a4 : q.1 28 (40 * h + r) < 0
      · rw [if_pos a4]
        refine ⟨_, ?_, fl2_rf _, gnew_LX (LX_up rfl (LX_up rfl (LX_up rfl h0)))⟩
        simp (decide := true) (disch := omega) only [bq_183_7, rq_183_11, Option.bind_some, xasI, xasL, xasR, xin_t, cond_true, cond_false, nI_clamp, k_0, k_1, k_2, k_3, k_4, k_5, k_6, k_40, k_60, k_500, k_10000, pk_mul, nI_add, nI_e0, nI_ee, nI_leI, nI_ltI, xbool0, xbool1, xbn0, xbn1, xb_0, xb_1, reduceIte, one0, Option.isNone_none, ne_eq, not_true_eq_false, not_false_eq_true, if_true, if_false, ite_not, Bool.true_and, Bool.and_true]
        rw [if_pos a2]
        simp (decide := true) (disch := omega) only [rq_183_73, Option.bind_some, xasI, xasL, xasR, xin_t, cond_true, cond_false, nI_clamp, k_0, k_1, k_2, k_3, k_4, k_5, k_6, k_40, k_60, k_500, k_10000, pk_mul, nI_add, nI_e0, nI_ee, nI_leI, nI_ltI, xbool0, xbool1, xbn0, xbn1, xb_0, xb_1, reduceIte, one0, Option.isNone_none, ne_eq, not_true_eq_false, not_false_eq_true, if_true, if_false, ite_not, Bool.true_and, Bool.and_true]
        rw [if_pos a3.1]
        simp (decide := true) (disch := omega) only [rq_183_83, Option.bind_some, xasI, xasL, xasR, xin_t, cond_true, cond_false, nI_clamp, k_0, k_1, k_2, k_3, k_4, k_5, k_6, k_40, k_60, k_500, k_10000, pk_mul, nI_add, nI_e0, nI_ee, nI_leI, nI_ltI, xbool0, xbool1, xbn0, xbn1, xb_0, xb_1, reduceIte, one0, Option.isNone_none, ne_eq, not_true_eq_false, not_false_eq_true, if_true, if_false, ite_not, Bool.true_and, Bool.and_true]
        rw [if_pos a3.2]
        simp (decide := true) (disch := omega) only [rq_183_100, Option.bind_some, xasI, xasL, xasR, xin_t, cond_true, cond_false, nI_clamp, k_0, k_1, k_2, k_3, k_4, k_5, k_6, k_40, k_60, k_500, k_10000, pk_mul, nI_add, nI_e0, nI_ee, nI_leI, nI_ltI, xbool0, xbool1, xbn0, xbn1, xb_0, xb_1, reduceIte, one0, Option.isNone_none, ne_eq, not_true_eq_false, not_false_eq_true, if_true, if_false, ite_not, Bool.true_and, Bool.and_true, rup_ne]
        rw [if_pos a4]
        simp (decide := true) (disch := omega) only [rq_183_130, Option.bind_some, xasI, xasL, xasR, xin_t, cond_true, cond_false, nI_clamp, k_0, k_1, k_2, k_3, k_4, k_5, k_6, k_40, k_60, k_500, k_10000, pk_mul, nI_add, nI_e0, nI_ee, nI_leI, nI_ltI, xbool0, xbool1, xbn0, xbn1, xb_0, xb_1, reduceIte, one0, Option.isNone_none, ne_eq, not_true_eq_false, not_false_eq_true, if_true, if_false, ite_not, Bool.true_and, Bool.and_true, rup_ne]
        rw [c_newLetter (q := rup (rup (rup q 32 (40 * h + r) (nI 1)) 23 (40 * h + r) (q.1 23 (40 * h + r) + nI 1)) 33 (40 * h + r) (nI 1)) (l := nu q 82 0) (by omega) h82.1]
        simp (decide := true) (disch := omega) only [bq_183_153, Option.bind_some, xasI, xasL, xasR, xin_t, cond_true, cond_false, nI_clamp, k_0, k_1, k_2, k_3, k_4, k_5, k_6, k_40, k_60, k_500, k_10000, pk_mul, nI_add, nI_e0, nI_ee, nI_leI, nI_ltI, xbool0, xbool1, xbn0, xbn1, xb_0, xb_1, reduceIte, one0, Option.isNone_none, ne_eq, not_true_eq_false, not_false_eq_true, if_true, if_false, ite_not, Bool.true_and, Bool.and_true]
        rfl
      · rw [if_neg a4]
        refine ⟨_, ?_, fl2_rf _, LX_up rfl (LX_up rfl h0)⟩
        simp (decide := true) (disch := omega) only [bq_183_7, rq_183_11, Option.bind_some, xasI, xasL, xasR, xin_t, cond_true, cond_false, nI_clamp, k_0, k_1, k_2, k_3, k_4, k_5, k_6, k_40, k_60, k_500, k_10000, pk_mul, nI_add, nI_e0, nI_ee, nI_leI, nI_ltI, xbool0, xbool1, xbn0, xbn1, xb_0, xb_1, reduceIte, one0, Option.isNone_none, ne_eq, not_true_eq_false, not_false_eq_true, if_true, if_false, ite_not, Bool.true_and, Bool.and_true]
        rw [if_pos a2]
        simp (decide := true) (disch := omega) only [rq_183_73, Option.bind_some, xasI, xasL, xasR, xin_t, cond_true, cond_false, nI_clamp, k_0, k_1, k_2, k_3, k_4, k_5, k_6, k_40, k_60, k_500, k_10000, pk_mul, nI_add, nI_e0, nI_ee, nI_leI, nI_ltI, xbool0, xbool1, xbn0, xbn1, xb_0, xb_1, reduceIte, one0, Option.isNone_none, ne_eq, not_true_eq_false, not_false_eq_true, if_true, if_false, ite_not, Bool.true_and, Bool.and_true]
        rw [if_pos a3.1]
        simp (decide := true) (disch := omega) only [rq_183_83, Option.bind_some, xasI, xasL, xasR, xin_t, cond_true, cond_false, nI_clamp, k_0, k_1, k_2, k_3, k_4, k_5, k_6, k_40, k_60, k_500, k_10000, pk_mul, nI_add, nI_e0, nI_ee, nI_leI, nI_ltI, xbool0, xbool1, xbn0, xbn1, xb_0, xb_1, reduceIte, one0, Option.isNone_none, ne_eq, not_true_eq_false, not_false_eq_true, if_true, if_false, ite_not, Bool.true_and, Bool.and_true]
        rw [if_pos a3.2]
        simp (decide := true) (disch := omega) only [rq_183_100, Option.bind_some, xasI, xasL, xasR, xin_t, cond_true, cond_false, nI_clamp, k_0, k_1, k_2, k_3, k_4, k_5, k_6, k_40, k_60, k_500, k_10000, pk_mul, nI_add, nI_e0, nI_ee, nI_leI, nI_ltI, xbool0, xbool1, xbn0, xbn1, xb_0, xb_1, reduceIte, one0, Option.isNone_none, ne_eq, not_true_eq_false, not_false_eq_true, if_true, if_false, ite_not, Bool.true_and, Bool.and_true, rup_ne]
        rw [if_neg a4, bq_183_129]
        rfl
    · rw [if_neg a3]
      refine ⟨q, ?_, fl2_rf q, h0⟩
      simp (decide := true) (disch := omega) only [bq_183_7, rq_183_11, Option.bind_some, xasI, xasL, xasR, xin_t, cond_true, cond_false, nI_clamp, k_0, k_1, k_2, k_3, k_4, k_5, k_6, k_40, k_60, k_500, k_10000, pk_mul, nI_add, nI_e0, nI_ee, nI_leI, nI_ltI, xbool0, xbool1, xbn0, xbn1, xb_0, xb_1, reduceIte, one0, Option.isNone_none, ne_eq, not_true_eq_false, not_false_eq_true, if_true, if_false, ite_not, Bool.true_and, Bool.and_true]
      rw [if_pos a2]
      simp (decide := true) (disch := omega) only [rq_183_73, Option.bind_some, xasI, xasL, xasR, xin_t, cond_true, cond_false, nI_clamp, k_0, k_1, k_2, k_3, k_4, k_5, k_6, k_40, k_60, k_500, k_10000, pk_mul, nI_add, nI_e0, nI_ee, nI_leI, nI_ltI, xbool0, xbool1, xbn0, xbn1, xb_0, xb_1, reduceIte, one0, Option.isNone_none, ne_eq, not_true_eq_false, not_false_eq_true, if_true, if_false, ite_not, Bool.true_and, Bool.and_true]
      by_cases a4 : q.1 32 (40 * h + r) = 0
      · rw [if_pos a4]
        simp (decide := true) (disch := omega) only [rq_183_83, Option.bind_some, xasI, xasL, xasR, xin_t, cond_true, cond_false, nI_clamp, k_0, k_1, k_2, k_3, k_4, k_5, k_6, k_40, k_60, k_500, k_10000, pk_mul, nI_add, nI_e0, nI_ee, nI_leI, nI_ltI, xbool0, xbool1, xbn0, xbn1, xb_0, xb_1, reduceIte, one0, Option.isNone_none, ne_eq, not_true_eq_false, not_false_eq_true, if_true, if_false, ite_not, Bool.true_and, Bool.and_true]
        rw [if_neg (fun e => a3 ⟨a4, e⟩), bq_183_99]
      · rw [if_neg a4, bq_183_99]
  · rw [if_neg a2]
    by_cases a3 : q.1 33 (40 * h + r) = 0
    · rw [if_pos a3]
      have l1 : LX (gtkA q (40 * h + r)) L := LX_up rfl (LX_up rfl (LX_up rfl (LX_up rfl h0)))
      obtain ⟨q', e, f, l2⟩ := c_owesAllL (T0 := T0) (MI := MI) (B := B) (M := M) (o2 := none) l1.1 hp
      refine ⟨q', ?_, fl2_of f, LX_of l1 f l2⟩
      simp (decide := true) (disch := omega) only [bq_183_7, rq_183_11, Option.bind_some, xasI, xasL, xasR, xin_t, cond_true, cond_false, nI_clamp, k_0, k_1, k_2, k_3, k_4, k_5, k_6, k_40, k_60, k_500, k_10000, pk_mul, nI_add, nI_e0, nI_ee, nI_leI, nI_ltI, xbool0, xbool1, xbn0, xbn1, xb_0, xb_1, reduceIte, one0, Option.isNone_none, ne_eq, not_true_eq_false, not_false_eq_true, if_true, if_false, ite_not, Bool.true_and, Bool.and_true]
      rw [if_neg a2]
      simp (decide := true) (disch := omega) only [rq_183_20, Option.bind_some, xasI, xasL, xasR, xin_t, cond_true, cond_false, nI_clamp, k_0, k_1, k_2, k_3, k_4, k_5, k_6, k_40, k_60, k_500, k_10000, pk_mul, nI_add, nI_e0, nI_ee, nI_leI, nI_ltI, xbool0, xbool1, xbn0, xbn1, xb_0, xb_1, reduceIte, one0, Option.isNone_none, ne_eq, not_true_eq_false, not_false_eq_true, if_true, if_false, ite_not, Bool.true_and, Bool.and_true]
      rw [if_pos a3]
      simp (decide := true) (disch := omega) only [rq_183_31, Option.bind_some, xasI, xasL, xasR, xin_t, cond_true, cond_false, nI_clamp, k_0, k_1, k_2, k_3, k_4, k_5, k_6, k_40, k_60, k_500, k_10000, pk_mul, nI_add, nI_e0, nI_ee, nI_leI, nI_ltI, xbool0, xbool1, xbn0, xbn1, xb_0, xb_1, reduceIte, one0, Option.isNone_none, ne_eq, not_true_eq_false, not_false_eq_true, if_true, if_false, ite_not, Bool.true_and, Bool.and_true]
      show (xZ T0 MI 135 0 [some (vr (some B)), some (vi (nI (40 * h + r))), none] [] (rput B (gtkA q (40 * h + r)) M)).bind _ = _
      rw [e]
      simp (decide := true) (disch := omega) only [bq_183_72, Option.bind_some, xasI, xasL, xasR, xin_t, cond_true, cond_false, nI_clamp, k_0, k_1, k_2, k_3, k_4, k_5, k_6, k_40, k_60, k_500, k_10000, pk_mul, nI_add, nI_e0, nI_ee, nI_leI, nI_ltI, xbool0, xbool1, xbn0, xbn1, xb_0, xb_1, reduceIte, one0, Option.isNone_none, ne_eq, not_true_eq_false, not_false_eq_true, if_true, if_false, ite_not, Bool.true_and, Bool.and_true]
    · rw [if_neg a3]
      refine ⟨q, ?_, fl2_rf q, h0⟩
      simp (decide := true) (disch := omega) only [bq_183_7, rq_183_11, Option.bind_some, xasI, xasL, xasR, xin_t, cond_true, cond_false, nI_clamp, k_0, k_1, k_2, k_3, k_4, k_5, k_6, k_40, k_60, k_500, k_10000, pk_mul, nI_add, nI_e0, nI_ee, nI_leI, nI_ltI, xbool0, xbool1, xbn0, xbn1, xb_0, xb_1, reduceIte, one0, Option.isNone_none, ne_eq, not_true_eq_false, not_false_eq_true, if_true, if_false, ite_not, Bool.true_and, Bool.and_true]
      rw [if_neg a2]
      simp (decide := true) (disch := omega) only [rq_183_20, Option.bind_some, xasI, xasL, xasR, xin_t, cond_true, cond_false, nI_clamp, k_0, k_1, k_2, k_3, k_4, k_5, k_6, k_40, k_60, k_500, k_10000, pk_mul, nI_add, nI_e0, nI_ee, nI_leI, nI_ltI, xbool0, xbool1, xbn0, xbn1, xb_0, xb_1, reduceIte, one0, Option.isNone_none, ne_eq, not_true_eq_false, not_false_eq_true, if_true, if_false, ite_not, Bool.true_and, Bool.and_true]
      rw [if_neg a3, bq_183_30]
