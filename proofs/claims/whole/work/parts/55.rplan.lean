/-! THE REFERENCE'S status, plan -/
def gups (q : xrho) : Nat → Nat → Nat
  | _, 0 => 0
  | h, m + 1 => (if q.1 0 h = 0 then 0 else 1) + gups q (h + 1) m
theorem c_ups {T0 MI B : Nat} {q : xrho} {M : xM} : ∀ m h, h + m = 6 → ∀ a (o1 : Option xV), xZ T0 MI 197 97 [some (vr (some B)), o1, some (vi (nI a)), some (vi (nI h))] [] (rput B q M) = some (some (vi (nI (a + gups q h m))), rput B q M) := by
  intro m
  induction m with
  | zero =>
    intro h hh a o1
    rw [bq_197_97, if_pos (by rw [k_6, nI_leI (by omega) (by omega)]; omega), bq_197_126]
    rfl
  | succ m ih =>
    intro h hh a o1
    rw [bq_197_97, if_neg (by rw [k_6, nI_leI (by omega) (by omega)]; omega)]
    unfold gups
    simp (decide := true) (disch := omega) only [rq_197_103, Option.bind_some, xasI, xasL, xasR, xin_t, cond_true, cond_false, nI_clamp, k_0, k_1, k_2, k_3, k_4, k_5, k_6, k_40, k_60, k_500, k_10000, pk_mul, nI_add, nI_e0, nI_ee, nI_leI, nI_ltI, xbool0, xbool1, xbn0, xbn1, xb_0, xb_1, reduceIte, one0, Option.isNone_none, ne_eq, not_true_eq_false, not_false_eq_true, if_true, if_false, ite_not, Bool.true_and, Bool.and_true]
    by_cases e : q.1 0 h = 0
    · rw [if_pos e, if_pos e, bq_197_117, bq_197_118, nI_s, k_0, nI_add, ih (h + 1) (by omega), Nat.add_zero, Nat.zero_add]
    · rw [if_neg e, if_neg e, bq_197_113, bq_197_118, nI_s, k_1, nI_add, ih (h + 1) (by omega), Nat.add_assoc]
def gstat (q : xrho) (x : Int32) : Int32 := match ix x 17 with
  | some k => if 10 < k then q.1 1 (k - 10) else gsw x n9 0 [nI (gthere q 0 (nu q 12 0)), q.1 12 0, q.1 45 0, q.1 82 0, q.1 88 0, nI (gups q 0 6), q.1 13 0, q.1 14 0]
  | none => n9
theorem c_status {T0 MI B : Nat} {q : xrho} {x : Int32} {M : xM} {o2 o3 : Option xV} (h12 : isN q 12 0 40) : xZ T0 MI 197 0 [some (vr (some B)), some (vi x), o2, o3] [] (rput B q M) = some (some (vi (gstat q x)), rput B q M) := by
  unfold gstat
  cases hx : ix x 17 with
  | none =>
    have hx2 := ix_none hx
    have g : xZ T0 MI 197 0 [some (vr (some B)), some (vi x), o2, o3] [] (rput B q M) = xZ T0 MI 197 22 [some (vr (some B)), some (vi x), o2, o3] [] (rput B q M) := by
      rw [bq_197_0]
      by_cases e : x ≤ Int32.ofInt 10
      · rw [if_pos e]
      · rw [if_neg e, bq_197_6]
        by_cases e2 : Int32.ofInt 17 ≤ x
        · rw [if_pos e2]
        · exfalso
          refine hx2 ⟨?_, Int32.not_le.mp e2⟩
          have := Int32.not_le.mp e
          exact Int32.le_of_lt (i_tr (show (0 : Int32) < Int32.ofInt 10 by decide) this)
    have ho : x.toInt < 0 ∨ (7 : Int) < x.toInt := by
      rcases sw_cases x 7 (by decide) with ⟨h1, h2⟩ | ⟨k, hk, rfl⟩
      · exact h1
      · exfalso
        refine hx2 ⟨le_0 (by omega), ?_⟩
        rw [nI_ltI (by omega) (by omega)]
        omega
    rw [g, bq_197_22, if_pos ho, bq_197_138]
    rfl
  | some k =>
    obtain ⟨hk, rfl, -⟩ := ix_some (by omega) hx
    dsimp only
    by_cases a : 10 < k
    · rw [if_pos a, bq_197_0, if_neg (by rw [k_10, nI_leI (by omega) (by omega)]; omega), bq_197_6, if_neg (by rw [show Int32.ofInt 17 = nI 17 from rfl, nI_leI (by omega) (by omega)]; omega)]
      have e : nI k - Int32.ofInt 10 = nI (k - 10) := by
        rcases (show k = 11 ∨ k = 12 ∨ k = 13 ∨ k = 14 ∨ k = 15 ∨ k = 16 by omega) with rfl | rfl | rfl | rfl | rfl | rfl <;> decide
      rw [rq_197_12, e]
      simp (decide := true) (disch := omega) only [Option.bind_some, xasI, xasL, xasR, xin_t, cond_true, cond_false, nI_clamp, k_0, k_1, k_2, k_3, k_4, k_5, k_6, k_40, k_60, k_500, k_10000, pk_mul, nI_add, nI_e0, nI_ee, nI_leI, nI_ltI, xbool0, xbool1, xbn0, xbn1, xb_0, xb_1, reduceIte, one0, Option.isNone_none, ne_eq, not_true_eq_false, not_false_eq_true, if_true, if_false, ite_not, Bool.true_and, Bool.and_true]
    · rw [if_neg a, bq_197_0, if_pos (by rw [k_10, nI_leI (by omega) (by omega)]; omega), bq_197_22]
      by_cases a2 : k ≤ 7
      · rw [if_neg (by rw [nI_toInt (by omega)]; omega), nI_toInt (by omega)]
        have hg := gsw_in (d := n9) (r := [nI (gthere q 0 (nu q 12 0)), q.1 12 0, q.1 45 0, q.1 82 0, q.1 88 0, nI (gups q 0 6), q.1 13 0, q.1 14 0]) (k := 0) (j := k) (by simp) (by simp; omega)
        rw [Nat.zero_add] at hg
        rw [hg]
        match k, a2 with
        | 0, _ =>
          show xZ T0 MI 197 68 _ _ _ = some (some (vi (nI (gthere q 0 (nu q 12 0)))), _)
          rw [rq_197_68, c_rangesThere h12.2 h12.1]
          simp (decide := true) (disch := omega) only [bq_197_72, Option.bind_some, xasI, xasL, xasR, xin_t, cond_true, cond_false, nI_clamp, k_0, k_1, k_2, k_3, k_4, k_5, k_6, k_40, k_60, k_500, k_10000, pk_mul, nI_add, nI_e0, nI_ee, nI_leI, nI_ltI, xbool0, xbool1, xbn0, xbn1, xb_0, xb_1, reduceIte, one0, Option.isNone_none, ne_eq, not_true_eq_false, not_false_eq_true, if_true, if_false, ite_not, Bool.true_and, Bool.and_true]
        | 1, _ => show xZ T0 MI 197 73 _ _ _ = _; simp (decide := true) (disch := omega) only [rq_197_73, Option.bind_some, xasI, xasL, xasR, xin_t, cond_true, cond_false, nI_clamp, k_0, k_1, k_2, k_3, k_4, k_5, k_6, k_40, k_60, k_500, k_10000, pk_mul, nI_add, nI_e0, nI_ee, nI_leI, nI_ltI, xbool0, xbool1, xbn0, xbn1, xb_0, xb_1, reduceIte, one0, Option.isNone_none, ne_eq, not_true_eq_false, not_false_eq_true, if_true, if_false, ite_not, Bool.true_and, Bool.and_true]; rfl
        | 2, _ => show xZ T0 MI 197 78 _ _ _ = _; simp (decide := true) (disch := omega) only [rq_197_78, Option.bind_some, xasI, xasL, xasR, xin_t, cond_true, cond_false, nI_clamp, k_0, k_1, k_2, k_3, k_4, k_5, k_6, k_40, k_60, k_500, k_10000, pk_mul, nI_add, nI_e0, nI_ee, nI_leI, nI_ltI, xbool0, xbool1, xbn0, xbn1, xb_0, xb_1, reduceIte, one0, Option.isNone_none, ne_eq, not_true_eq_false, not_false_eq_true, if_true, if_false, ite_not, Bool.true_and, Bool.and_true]; rfl
        | 3, _ => show xZ T0 MI 197 83 _ _ _ = _; simp (decide := true) (disch := omega) only [rq_197_83, Option.bind_some, xasI, xasL, xasR, xin_t, cond_true, cond_false, nI_clamp, k_0, k_1, k_2, k_3, k_4, k_5, k_6, k_40, k_60, k_500, k_10000, pk_mul, nI_add, nI_e0, nI_ee, nI_leI, nI_ltI, xbool0, xbool1, xbn0, xbn1, xb_0, xb_1, reduceIte, one0, Option.isNone_none, ne_eq, not_true_eq_false, not_false_eq_true, if_true, if_false, ite_not, Bool.true_and, Bool.and_true]; rfl
        | 4, _ => show xZ T0 MI 197 88 _ _ _ = _; simp (decide := true) (disch := omega) only [rq_197_88, Option.bind_some, xasI, xasL, xasR, xin_t, cond_true, cond_false, nI_clamp, k_0, k_1, k_2, k_3, k_4, k_5, k_6, k_40, k_60, k_500, k_10000, pk_mul, nI_add, nI_e0, nI_ee, nI_leI, nI_ltI, xbool0, xbool1, xbn0, xbn1, xb_0, xb_1, reduceIte, one0, Option.isNone_none, ne_eq, not_true_eq_false, not_false_eq_true, if_true, if_false, ite_not, Bool.true_and, Bool.and_true]; rfl
        | 5, _ =>
          show xZ T0 MI 197 93 _ _ _ = some (some (vi (nI (gups q 0 6))), _)
          rw [bq_197_93, k_0, c_ups 6 0 (by omega), Nat.zero_add]
        | 6, _ => show xZ T0 MI 197 128 _ _ _ = _; simp (decide := true) (disch := omega) only [rq_197_128, Option.bind_some, xasI, xasL, xasR, xin_t, cond_true, cond_false, nI_clamp, k_0, k_1, k_2, k_3, k_4, k_5, k_6, k_40, k_60, k_500, k_10000, pk_mul, nI_add, nI_e0, nI_ee, nI_leI, nI_ltI, xbool0, xbool1, xbn0, xbn1, xb_0, xb_1, reduceIte, one0, Option.isNone_none, ne_eq, not_true_eq_false, not_false_eq_true, if_true, if_false, ite_not, Bool.true_and, Bool.and_true]; rfl
        | 7, _ => show xZ T0 MI 197 133 _ _ _ = _; simp (decide := true) (disch := omega) only [rq_197_133, Option.bind_some, xasI, xasL, xasR, xin_t, cond_true, cond_false, nI_clamp, k_0, k_1, k_2, k_3, k_4, k_5, k_6, k_40, k_60, k_500, k_10000, pk_mul, nI_add, nI_e0, nI_ee, nI_leI, nI_ltI, xbool0, xbool1, xbn0, xbn1, xb_0, xb_1, reduceIte, one0, Option.isNone_none, ne_eq, not_true_eq_false, not_false_eq_true, if_true, if_false, ite_not, Bool.true_and, Bool.and_true]; rfl
      · rw [if_pos (by rw [nI_toInt (by omega)]; omega), gsw_out (n := 7) (by simp) (fun j hj => by rw [ne_eq, nI_ee (by omega) (by omega)]; omega), bq_197_138]
        rfl
/-! plan -/
def wgt (q : xrho) (h : Nat) : Int32 := gweigh q h 0 (nu q 12 0) (nI 0)
def plM (w : Nat → Int32) : Nat → Nat → Nat → Nat → Nat × Nat
  | _, 0, a, b => (a, b)
  | h, m + 1, a, b => plM w (h + 1) m (if w h ≤ w a then a else h) (if w b ≤ w h then b else h)
theorem plM_lt {w : Nat → Int32} : ∀ m h a b n, h + m ≤ n → a < n → b < n → (plM w h m a b).1 < n ∧ (plM w h m a b).2 < n
  | 0, _, _, _, _, _, ha, hb => ⟨ha, hb⟩
  | m + 1, h, a, b, n, hm, ha, hb => by
    unfold plM
    refine plM_lt m (h + 1) _ _ n (by omega) ?_ ?_ <;> split <;> omega
theorem c_pl_m {T0 MI B : Nat} {q : xrho} {M : xM} {o4 o5 o6 o7 : Option xV} (h12 : isN q 12 0 40) : ∀ m h, h + m = 6 → ∀ a b, a < 6 → b < 6 → xZ T0 MI 195 6 [some (vr (some B)), some (vi (nI a)), some (vi (nI b)), some (vi (nI h)), o4, o5, o6, o7] [] (rput B q M) = xZ T0 MI 195 48 [some (vr (some B)), some (vi (nI (plM (wgt q) h m a b).1)), some (vi (nI (plM (wgt q) h m a b).2)), some (vi (nI 6)), o4, o5, o6, o7] [] (rput B q M) := by
  intro m
  induction m with
  | zero =>
    intro h hh a b _ _
    have : h = 6 := by omega
    subst this
    rw [bq_195_6, if_pos (by decide)]
    rfl
  | succ m ih =>
    intro h hh a b ha hb
    have w : ∀ j, j < 6 → xZ T0 MI 193 0 [some (vr (some B)), some (vi (nI j)), none, none] [] (rput B q M) = some (some (vi (wgt q j)), rput B q M) := fun j hj => c_weigh hj h12.2 h12.1
    rw [bq_195_6, if_neg (by rw [k_6, nI_leI (by omega) (by omega)]; omega)]
    have s1 : xZ T0 MI 195 12 [some (vr (some B)), some (vi (nI a)), some (vi (nI b)), some (vi (nI h)), o4, o5, o6, o7] [] (rput B q M) = xZ T0 MI 195 27 [some (vr (some B)), some (vi (nI (if wgt q h ≤ wgt q a then a else h))), some (vi (nI b)), some (vi (nI h)), o4, o5, o6, o7] [] (rput B q M) := by
      simp (decide := true) (disch := omega) only [rq_195_12, rq_195_17, bq_195_22, Option.bind_some, xasI, xasL, xasR, xin_t, cond_true, cond_false, nI_clamp, k_0, k_1, k_2, k_3, k_4, k_5, k_6, k_40, k_60, k_500, k_10000, pk_mul, nI_add, nI_e0, nI_ee, nI_leI, nI_ltI, xbool0, xbool1, xbn0, xbn1, xb_0, xb_1, reduceIte, one0, Option.isNone_none, ne_eq, not_true_eq_false, not_false_eq_true, if_true, if_false, ite_not, Bool.true_and, Bool.and_true, w]
      by_cases e : wgt q h ≤ wgt q a
      · rw [if_pos e, if_pos e]
      · rw [if_neg e, if_neg e, bq_195_25]
    have s2 : ∀ a, xZ T0 MI 195 27 [some (vr (some B)), some (vi (nI a)), some (vi (nI b)), some (vi (nI h)), o4, o5, o6, o7] [] (rput B q M) = xZ T0 MI 195 6 [some (vr (some B)), some (vi (nI a)), some (vi (nI (if wgt q b ≤ wgt q h then b else h))), some (vi (nI (h + 1))), o4, o5, o6, o7] [] (rput B q M) := by
      intro a
      simp (decide := true) (disch := omega) only [rq_195_27, rq_195_32, bq_195_37, Option.bind_some, xasI, xasL, xasR, xin_t, cond_true, cond_false, nI_clamp, k_0, k_1, k_2, k_3, k_4, k_5, k_6, k_40, k_60, k_500, k_10000, pk_mul, nI_add, nI_e0, nI_ee, nI_leI, nI_ltI, xbool0, xbool1, xbn0, xbn1, xb_0, xb_1, reduceIte, one0, Option.isNone_none, ne_eq, not_true_eq_false, not_false_eq_true, if_true, if_false, ite_not, Bool.true_and, Bool.and_true, w]
      by_cases e : wgt q b ≤ wgt q h
      · rw [if_pos e, if_pos e, bq_195_42, nI_s]
      · rw [if_neg e, if_neg e, bq_195_40, bq_195_42, nI_s]
    rw [s1, s2, ih (h + 1) (by omega) _ _ (by split <;> omega) (by split <;> omega)]
    rfl
def plA (q : xrho) (L : xLs) (a b r : Nat) : Int32 := if wgt q a - nI (L.1 (40 * a + r)).length < wgt q b + nI (L.1 (40 * a + r)).length then wgt q b + nI (L.1 (40 * a + r)).length else wgt q a - nI (L.1 (40 * a + r)).length
noncomputable def plB (q : xrho) (L : xLs) (a b : Nat) : Nat → Nat → Option Nat → Int32 → Option Nat
  | _, 0, o, _ => o
  | r, m + 1, o, c => if q.1 2 r = 0 ∨ tI (gfree q r (nu q 6 r)) = 0 ∨ nu q 6 r ≠ a ∨ a = b ∨ (L.1 (40 * a + r)).length = 0 ∨ ¬ plA q L a b r < c then plB q L a b (r + 1) m o c else plB q L a b (r + 1) m (some r) (plA q L a b r)
theorem c_pl_b {T0 MI B a b n : Nat} {q : xrho} {L : xLs} {M : xM} (h0 : LX q L) (h12 : isN q 12 0 40) (hn : n = nu q 12 0) (h6 : ∀ r, r < 40 → isN q 6 r 5) (ha : a < 6) (hb : b < 6) : ∀ m r, r + m = n → ∀ (o : Option Nat) (c : Int32) (o6 o7 : Option xV), ∃ o4' o5' o6' o7', xZ T0 MI 195 60 [some (vr (some B)), some (vi (nI a)), some (vi (nI b)), some (vi (nO o)), some (vi c), some (vi (nI r)), o6, o7] [] (rput B q M) = xZ T0 MI 195 169 [some (vr (some B)), some (vi (nI a)), some (vi (nI b)), some (vi (nO (plB q L a b r m o c))), o4', o5', o6', o7'] [] (rput B q M) := by
  have b12 := h12.2
  have w : ∀ j, j < 6 → xZ T0 MI 193 0 [some (vr (some B)), some (vi (nI j)), none, none] [] (rput B q M) = some (some (vi (wgt q j)), rput B q M) := fun j hj => c_weigh hj h12.2 h12.1
  intro m
  induction m with
  | zero =>
    intro r hr o c o6 o7
    refine ⟨some (vi c), some (vi (nI r)), o6, o7, ?_⟩
    simp (decide := true) (disch := omega) only [rq_195_60, Option.bind_some, xasI, xasL, xasR, xin_t, cond_true, cond_false, nI_clamp, k_0, k_1, k_2, k_3, k_4, k_5, k_6, k_40, k_60, k_500, k_10000, pk_mul, nI_add, nI_e0, nI_ee, nI_leI, nI_ltI, xbool0, xbool1, xbn0, xbn1, xb_0, xb_1, reduceIte, one0, Option.isNone_none, ne_eq, not_true_eq_false, not_false_eq_true, if_true, if_false, ite_not, Bool.true_and, Bool.and_true, h12.1]
    rw [if_pos (by omega)]
    rfl
  | succ m ih =>
    intro r hr o c o6 o7
    have b6 := (h6 r (by omega)).2
    have hR := h0.1.1 (40 * a + r) (by omega)
    have bR := hR.2.1
    have nx : ∀ (o : Option Nat) (c : Int32) (o6 o7 : Option xV), xZ T0 MI 195 163 [some (vr (some B)), some (vi (nI a)), some (vi (nI b)), some (vi (nO o)), some (vi c), some (vi (nI r)), o6, o7] [] (rput B q M) = xZ T0 MI 195 60 [some (vr (some B)), some (vi (nI a)), some (vi (nI b)), some (vi (nO o)), some (vi c), some (vi (nI (r + 1))), o6, o7] [] (rput B q M) := fun o c o6 o7 => by rw [bq_195_163, nI_s]
    have st : xZ T0 MI 195 60 [some (vr (some B)), some (vi (nI a)), some (vi (nI b)), some (vi (nO o)), some (vi c), some (vi (nI r)), o6, o7] [] (rput B q M) = xZ T0 MI 195 69 [some (vr (some B)), some (vi (nI a)), some (vi (nI b)), some (vi (nO o)), some (vi c), some (vi (nI r)), o6, o7] [] (rput B q M) := by
      simp (decide := true) (disch := omega) only [rq_195_60, Option.bind_some, xasI, xasL, xasR, xin_t, cond_true, cond_false, nI_clamp, k_0, k_1, k_2, k_3, k_4, k_5, k_6, k_40, k_60, k_500, k_10000, pk_mul, nI_add, nI_e0, nI_ee, nI_leI, nI_ltI, xbool0, xbool1, xbn0, xbn1, xb_0, xb_1, reduceIte, one0, Option.isNone_none, ne_eq, not_true_eq_false, not_false_eq_true, if_true, if_false, ite_not, Bool.true_and, Bool.and_true, h12.1]
      rw [if_neg (by omega)]
    unfold plB
    rw [st]
    have skip : (q.1 2 r = 0 ∨ tI (gfree q r (nu q 6 r)) = 0 ∨ nu q 6 r ≠ a ∨ a = b ∨ (L.1 (40 * a + r)).length = 0 ∨ ¬ plA q L a b r < c) → ∀ o6 o7, (xZ T0 MI 195 69 [some (vr (some B)), some (vi (nI a)), some (vi (nI b)), some (vi (nO o)), some (vi c), some (vi (nI r)), o6, o7] [] (rput B q M) = xZ T0 MI 195 163 [some (vr (some B)), some (vi (nI a)), some (vi (nI b)), some (vi (nO o)), some (vi c), some (vi (nI r)), o6, o7] [] (rput B q M)) → True := fun _ _ _ _ => trivial
    clear skip
    simp (decide := true) (disch := omega) only [rq_195_69, Option.bind_some, xasI, xasL, xasR, xin_t, cond_true, cond_false, nI_clamp, k_0, k_1, k_2, k_3, k_4, k_5, k_6, k_40, k_60, k_500, k_10000, pk_mul, nI_add, nI_e0, nI_ee, nI_leI, nI_ltI, xbool0, xbool1, xbn0, xbn1, xb_0, xb_1, reduceIte, one0, Option.isNone_none, ne_eq, not_true_eq_false, not_false_eq_true, if_true, if_false, ite_not, Bool.true_and, Bool.and_true]
    by_cases a1 : q.1 2 r = 0
    · rw [if_pos a1, if_pos (Or.inl a1), nx]
      exact ih (r + 1) (by omega) _ _ _ _
    rw [if_neg a1, rq_195_79, c_isFreeT (by omega) (by omega) (h6 r (by omega)).1]
    by_cases a2 : tI (gfree q r (nu q 6 r)) = 0
    · rw [if_pos (Or.inr (Or.inl a2)), a2]
      simp (decide := true) (disch := omega) only [bq_195_85, Option.bind_some, xasI, xasL, xasR, xin_t, cond_true, cond_false, nI_clamp, k_0, k_1, k_2, k_3, k_4, k_5, k_6, k_40, k_60, k_500, k_10000, pk_mul, nI_add, nI_e0, nI_ee, nI_leI, nI_ltI, xbool0, xbool1, xbn0, xbn1, xb_0, xb_1, reduceIte, one0, Option.isNone_none, ne_eq, not_true_eq_false, not_false_eq_true, if_true, if_false, ite_not, Bool.true_and, Bool.and_true]
      rw [nx]
      exact ih (r + 1) (by omega) _ _ _ _
    have a2' : tI (gfree q r (nu q 6 r)) = 1 := by
      by_cases hf : gfree q r (nu q 6 r)
      · exact tI_t hf
      · exact absurd (tI_f hf) a2
    have st2 : ∀ z : Option xV × xM → xR, ((some (some (vi (tI (gfree q r (nu q 6 r)))), rput B q M) : xR).bind z) = z (some (vi 1), rput B q M) := fun z => by rw [a2']; rfl
    rw [st2]
    simp (decide := true) (disch := omega) only [bq_195_85, rq_195_88, Option.bind_some, xasI, xasL, xasR, xin_t, cond_true, cond_false, nI_clamp, k_0, k_1, k_2, k_3, k_4, k_5, k_6, k_40, k_60, k_500, k_10000, pk_mul, nI_add, nI_e0, nI_ee, nI_leI, nI_ltI, xbool0, xbool1, xbn0, xbn1, xb_0, xb_1, reduceIte, one0, Option.isNone_none, ne_eq, not_true_eq_false, not_false_eq_true, if_true, if_false, ite_not, Bool.true_and, Bool.and_true, (h6 r (by omega)).1]
    by_cases a3 : nu q 6 r = a
    case neg =>
      rw [if_neg a3, if_pos (Or.inr (Or.inr (Or.inl a3))), nx]
      exact ih (r + 1) (by omega) _ _ _ _
    rw [if_pos a3]
    rw [bq_195_99]
    by_cases a4 : a = b
    · rw [if_pos (by rw [a4]), if_pos (Or.inr (Or.inr (Or.inr (Or.inl a4)))), bq_195_104, nx]
      exact ih (r + 1) (by omega) _ _ _ _
    rw [if_neg (by rw [nI_ee (by omega) (by omega)]; exact a4)]
    simp (decide := true) (disch := omega) only [rq_195_107, rq_195_117, Option.bind_some, xasI, xasL, xasR, xin_t, cond_true, cond_false, nI_clamp, k_0, k_1, k_2, k_3, k_4, k_5, k_6, k_40, k_60, k_500, k_10000, pk_mul, nI_add, nI_e0, nI_ee, nI_leI, nI_ltI, xbool0, xbool1, xbn0, xbn1, xb_0, xb_1, reduceIte, one0, Option.isNone_none, ne_eq, not_true_eq_false, not_false_eq_true, if_true, if_false, ite_not, Bool.true_and, Bool.and_true, c_spot, w, hR.1]
    simp (decide := true) (disch := omega) only [rq_195_125, Option.bind_some, xasI, xasL, xasR, xin_t, cond_true, cond_false, nI_clamp, k_0, k_1, k_2, k_3, k_4, k_5, k_6, k_40, k_60, k_500, k_10000, pk_mul, nI_add, nI_e0, nI_ee, nI_leI, nI_ltI, xbool0, xbool1, xbn0, xbn1, xb_0, xb_1, reduceIte, one0, Option.isNone_none, ne_eq, not_true_eq_false, not_false_eq_true, if_true, if_false, ite_not, Bool.true_and, Bool.and_true, w]
    rw [bq_195_133]
    by_cases a5 : (L.1 (40 * a + r)).length = 0
    · rw [if_pos (by rw [nI_e0 (by omega)]; exact a5), if_pos (Or.inr (Or.inr (Or.inr (Or.inr (Or.inl a5))))), nx]
      exact ih (r + 1) (by omega) _ _ _ _
    rw [if_neg (by rw [nI_e0 (by omega)]; exact a5), bq_195_146]
    by_cases a6 : plA q L a b r < c
    · have n1 : ¬ (q.1 2 r = 0 ∨ tI (gfree q r (nu q 6 r)) = 0 ∨ ¬ nu q 6 r = a ∨ a = b ∨ (L.1 (40 * a + r)).length = 0 ∨ ¬ plA q L a b r < c) := fun e => by
        rcases e with e | e | e | e | e | e
        · exact a1 e
        · exact a2 e
        · exact e a3
        · exact a4 e
        · exact a5 e
        · exact e a6
      rw [if_neg n1]
      unfold plA at a6
      rw [if_pos a6, bq_195_156]
      have := ih (r + 1) (by omega) (some r) (plA q L a b r) (some (vi (nI (L.1 (40 * a + r)).length))) (some (vi (plA q L a b r)))
      obtain ⟨o4', o5', o6', o7', e⟩ := this
      refine ⟨o4', o5', o6', o7', ?_⟩
      rw [← e, ← nx]
      rfl
    · rw [if_pos (Or.inr (Or.inr (Or.inr (Or.inr (Or.inr a6)))))]
      unfold plA at a6
      rw [if_neg a6, bq_195_153, nx]
      exact ih (r + 1) (by omega) _ _ _ _
noncomputable def gplan (q : xrho) (L : xLs) : Int32 := match plB q L (plM (wgt q) 1 5 0 0).1 (plM (wgt q) 1 5 0 0).2 0 (nu q 12 0) none (wgt q (plM (wgt q) 1 5 0 0).1) with
  | none => n9
  | some r => nI (10 * r + (plM (wgt q) 1 5 0 0).2)
theorem plB_lt {q : xrho} {L : xLs} {a b : Nat} : ∀ m r (o : Option Nat) (c : Int32) (n : Nat), r + m ≤ n → (∀ j, o = some j → j < n) → ∀ j, plB q L a b r m o c = some j → j < n
  | 0, _, _, _, _, _, ho, j, hj => ho j hj
  | m + 1, r, o, c, n, hr, ho, j, hj => by
    unfold plB at hj
    split at hj
    · exact plB_lt m (r + 1) o c n (by omega) ho j hj
    · exact plB_lt m (r + 1) (some r) _ n (by omega) (fun j hj => by cases hj; omega) j hj
theorem c_plan {T0 MI B : Nat} {q : xrho} {L : xLs} {M : xM} {o1 o2 o3 o4 o5 o6 o7 : Option xV} (h0 : LX q L) (h12 : isN q 12 0 40) (h6 : ∀ r, r < 40 → isN q 6 r 5) : xZ T0 MI 195 0 [some (vr (some B)), o1, o2, o3, o4, o5, o6, o7] [] (rput B q M) = some (some (vi (gplan q L)), rput B q M) := by
  have b12 := h12.2
  unfold gplan
  have hp := plM_lt (w := wgt q) 5 1 0 0 6 (by omega) (by omega) (by omega)
  rw [bq_195_0, k_0, k_1, c_pl_m h12 5 1 (by omega) 0 0 (by omega) (by omega)]
  generalize plM (wgt q) 1 5 0 0 = ab at *
  obtain ⟨a, b⟩ := ab
  dsimp only at hp ⊢
  rw [rq_195_48, c_weigh hp.1 h12.2 h12.1]
  obtain ⟨o4', o5', o6', o7', e⟩ := c_pl_b (T0 := T0) (MI := MI) (B := B) (M := M) h0 h12 rfl h6 hp.1 hp.2 (nu q 12 0) 0 (by omega) none (wgt q a) o6 o7
  show xZ T0 MI 195 55 [some (vr (some B)), some (vi (nI a)), some (vi (nI b)), some (vi (Int32.ofInt (-1))), o4, o5, o6, o7] [vi (wgt q a)] (rput B q M) = _
  rw [bq_195_55, k_0, show Int32.ofInt (-1) = nO none from rfl, e, bq_195_169]
  cases hb : plB q L a b 0 (nu q 12 0) none (wgt q a) with
  | none =>
    rw [if_neg (by decide), bq_195_173, bq_195_184]
    rfl
  | some r =>
    have hr := plB_lt (nu q 12 0) 0 none (wgt q a) (nu q 12 0) (by omega) (fun j hj => by cases hj) r hb
    rw [if_pos (show 0 ≤ nO (some r) from le_0 (by omega)), bq_195_178, bq_195_184]
    show some (some (vi (Int32.ofInt 10 * nI r + nI b)), _) = _
    rw [k_10, pk_mul, nI_add]
