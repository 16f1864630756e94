/-! THE REFERENCE'S does -/
theorem cmp_0 (x y : Int64) : (lg_cmp x y = 0) = (x = y) := by
  apply propext
  unfold lg_cmp
  constructor
  · intro h
    by_cases e : x = y
    · exact e
    · by_cases g : x > y
      · rw [if_pos g] at h
        exact absurd h (by decide)
      · rw [if_neg g, if_neg e] at h
        exact absurd h (by decide)
  · intro h
    subst h
    simp
/-- what a call does to rows: the rows, the value, the sign, whether they changed -/
def doA (R : RW) (kind : Nat) (key : Int32) (v w : Int64) : RW × Int64 × Int32 × Bool := match kind with
  | 0 => (R, lkv (lkp Prod.fst key R), zI (lkp Prod.fst key R).isSome, false)
  | 1 => bif (putL R key v).1 then ((putL R key v).2, lkv (lkp Prod.fst key R), zI (lkp Prod.fst key R).isSome, true) else (R, 0, nI 2, false)
  | 2 => (dropK Prod.fst key R, lkv (lkp Prod.fst key R), zI (lkp Prod.fst key R).isSome, (lkp Prod.fst key R).isSome)
  | 3 => bif (putL R key (lkv (lkp Prod.fst key R) + v)).1 then ((putL R key (lkv (lkp Prod.fst key R) + v)).2, lkv (lkp Prod.fst key R) + v, zI (lkp Prod.fst key R).isSome, true) else (R, 0, nI 2, false)
  | _ => bif (lkp Prod.fst key R).isSome && decide (lkv (lkp Prod.fst key R) = v) then ((putL R key w).2, v, 1, true) else (R, lkv (lkp Prod.fst key R), 0, false)
def doS (b : Bool) (st : Int32) (S : Nat → List Int32) (p : Nat) (key : Int32) : Nat → List Int32 := if b = true ∧ st = nI 2 then va_up S p (addK (S p) key) else S
theorem c_does_a {T0 MI B p c kind : Nat} {q : xrho} {M : xM} {R : RW} {o3 o4 o5 o6 o7 o8 o9 o10 : Option xV} (hR : PR q p R) (hp : p < 240) (hc : c < 360) (hk : q.1 47 c = nI kind) (hk5 : kind < 5) : ∃ o : Option Nat, (∀ j, o = some j → j < 60) ∧ o.isSome = (lkp Prod.fst (q.1 48 c) R).isSome ∧ xZ T0 MI 176 0 [some (vr (some B)), some (vi (nI p)), some (vi (nI c)), o3, o4, o5, o6, o7, o8, o9, o10] [] (rput B q M) = if kind = 0 then some (none, rput B (rup (rupL q 89 0 (lkv (lkp Prod.fst (q.1 48 c) R))) 90 0 (zI (lkp Prod.fst (q.1 48 c) R).isSome)) M) else xZ T0 MI 176 67 [some (vr (some B)), some (vi (nI p)), some (vi (nI c)), some (vi (q.1 48 c)), some (vi (rfndI o (60 * p))), some (vl (lkv (lkp Prod.fst (q.1 48 c) R))), none, some (vi (nI kind)), o8, o9, o10] [] (rput B (rup (rupL q 89 0 (lkv (lkp Prod.fst (q.1 48 c) R))) 90 0 (zI (lkp Prod.fst (q.1 48 c) R).isSome)) M) := by
  have hl := PR_lkp hR (q.1 48 c)
  refine ⟨rfnd (fun j => q.1 20 (60 * p + j)) (q.1 48 c) 0 R.length, fun j hj => ?_, ?_, ?_⟩
  · rw [hj] at hl
    exact hl.1
  · cases ho : rfnd (fun j => q.1 20 (60 * p + j)) (q.1 48 c) 0 R.length with
    | none => rw [ho] at hl; dsimp only at hl; rw [hl]; rfl
    | some j => rw [ho] at hl; dsimp only at hl; rw [hl.2]; rfl
  · simp (decide := true) (disch := omega) only [rq_176_0, Option.bind_some, xasI, xasL, xasR, xin_t, cond_true, cond_false, nI_clamp, k_0, k_1, k_2, k_3, k_4, k_5, k_6, k_40, k_60, k_500, k_10000, pk_mul, nI_add, nI_e0, nI_ee, nI_leI, nI_ltI, xbool0, xbool1, xbn0, xbn1, xb_0, xb_1, reduceIte, one0, Option.isNone_none, ne_eq, not_true_eq_false, not_false_eq_true, if_true, if_false, ite_not, Bool.true_and, Bool.and_true]
    rw [c_rowAt hp hR.2.1 hR.1]
    cases ho : rfnd (fun j => q.1 20 (60 * p + j)) (q.1 48 c) 0 R.length with
    | none =>
      rw [ho] at hl
      dsimp only at hl
      rw [hl]
      simp (decide := true) (disch := omega) only [bq_176_13, Option.bind_some, xasI, xasL, xasR, xin_t, cond_true, cond_false, nI_clamp, k_0, k_1, k_2, k_3, k_4, k_5, k_6, k_40, k_60, k_500, k_10000, pk_mul, nI_add, nI_e0, nI_ee, nI_leI, nI_ltI, xbool0, xbool1, xbn0, xbn1, xb_0, xb_1, reduceIte, one0, Option.isNone_none, ne_eq, not_true_eq_false, not_false_eq_true, if_true, if_false, ite_not, Bool.true_and, Bool.and_true]
      rw [if_neg (show ¬ (0 ≤ rfndI none (60 * p)) from (by decide : ¬ ((0 : Int32) ≤ Int32.ofInt (-1)))), bq_176_20]
      simp (decide := true) (disch := omega) only [rq_176_31, Option.bind_some, xasI, xasL, xasR, xin_t, cond_true, cond_false, nI_clamp, k_0, k_1, k_2, k_3, k_4, k_5, k_6, k_40, k_60, k_500, k_10000, pk_mul, nI_add, nI_e0, nI_ee, nI_leI, nI_ltI, xbool0, xbool1, xbn0, xbn1, xb_0, xb_1, reduceIte, one0, Option.isNone_none, ne_eq, not_true_eq_false, not_false_eq_true, if_true, if_false, ite_not, Bool.true_and, Bool.and_true]
      rw [if_neg (show ¬ (0 ≤ rfndI none (60 * p)) from (by decide : ¬ ((0 : Int32) ≤ Int32.ofInt (-1)))), bq_176_53, rq_176_58]
      show (if q.1 47 c = 0 then _ else _) = _
      rw [hk]
      by_cases e : kind = 0
      · rw [if_pos (by rw [e]; rfl), if_pos e, bq_176_66]
        rfl
      · rw [if_neg (by rw [nI_e0 (by omega)]; exact e), if_neg e]
        rfl
    | some j =>
      rw [ho] at hl
      dsimp only at hl
      rw [hl.2]
      have hj := hl.1
      simp (decide := true) (disch := omega) only [bq_176_13, Option.bind_some, xasI, xasL, xasR, xin_t, cond_true, cond_false, nI_clamp, k_0, k_1, k_2, k_3, k_4, k_5, k_6, k_40, k_60, k_500, k_10000, pk_mul, nI_add, nI_e0, nI_ee, nI_leI, nI_ltI, xbool0, xbool1, xbn0, xbn1, xb_0, xb_1, reduceIte, one0, Option.isNone_none, ne_eq, not_true_eq_false, not_false_eq_true, if_true, if_false, ite_not, Bool.true_and, Bool.and_true]
      rw [show rfndI (some j) (60 * p) = nI (60 * p + j) from rfl]
      have p0 : (0 : Int32) ≤ nI (60 * p + j) := Int32.not_lt.mp (nI_pos (by omega))
      rw [if_pos p0]
      simp (decide := true) (disch := omega) only [rq_176_24, rq_176_31, Option.bind_some, xasI, xasL, xasR, xin_t, cond_true, cond_false, nI_clamp, k_0, k_1, k_2, k_3, k_4, k_5, k_6, k_40, k_60, k_500, k_10000, pk_mul, nI_add, nI_e0, nI_ee, nI_leI, nI_ltI, xbool0, xbool1, xbn0, xbn1, xb_0, xb_1, reduceIte, one0, Option.isNone_none, ne_eq, not_true_eq_false, not_false_eq_true, if_true, if_false, ite_not, Bool.true_and, Bool.and_true]
      rw [if_pos p0, bq_176_57, rq_176_58]
      show (if q.1 47 c = 0 then _ else _) = _
      rw [hk]
      by_cases e : kind = 0
      · rw [if_pos (by rw [e]; rfl), if_pos e, bq_176_66]
        rfl
      · rw [if_neg (by rw [nI_e0 (by omega)]; exact e), if_neg e]
        rfl
theorem c_does_t {T0 MI B p : Nat} {q : xrho} {M : xM} {R : Nat → RW} {S : Nat → List Int32} {K : Nat → KW} {b : Bool} {key : Int32} {o2 o4 o5 o6 o7 o9 o10 : Option xV} (h0 : LAok q R S K) (hp : p < 240) (ha : (addK (S p) key).length < 500) : ∃ q', xZ T0 MI 176 238 [some (vr (some B)), some (vi (nI p)), o2, some (vi key), o4, o5, o6, o7, some (vi (zI b)), o9, o10] [] (rput B q M) = some (none, rput B q' M) ∧ flat q q' ∧ LAok q' R (doS b (q.1 15 p) S p key) K := by
  unfold doS
  cases b with
  | false =>
    refine ⟨q, ?_, flat_rf q, ?_⟩
    · rw [bq_176_238, zI_f, if_pos rfl, bq_176_259]
    · rw [if_neg (by simp)]
      exact h0
  | true =>
    by_cases e : q.1 15 p = nI 2
    · obtain ⟨f, l⟩ := gowes_LA (key := key) h0 hp ha
      refine ⟨gowes q p (S p).length key, ?_, f, ?_⟩
      · rw [bq_176_238, zI_t, if_neg (by decide)]
        simp (decide := true) (disch := omega) only [rq_176_243, Option.bind_some, xasI, xasL, xasR, xin_t, cond_true, cond_false, nI_clamp, k_0, k_1, k_2, k_3, k_4, k_5, k_6, k_40, k_60, k_500, k_10000, pk_mul, nI_add, nI_e0, nI_ee, nI_leI, nI_ltI, xbool0, xbool1, xbn0, xbn1, xb_0, xb_1, reduceIte, one0, Option.isNone_none, ne_eq, not_true_eq_false, not_false_eq_true, if_true, if_false, ite_not, Bool.true_and, Bool.and_true]
        rw [if_pos e, rq_176_253, c_owes hp (h0.2.1 p hp).2.1 (h0.2.1 p hp).1]
        simp (decide := true) (disch := omega) only [bq_176_259, Option.bind_some, xasI, xasL, xasR, xin_t, cond_true, cond_false, nI_clamp, k_0, k_1, k_2, k_3, k_4, k_5, k_6, k_40, k_60, k_500, k_10000, pk_mul, nI_add, nI_e0, nI_ee, nI_leI, nI_ltI, xbool0, xbool1, xbn0, xbn1, xb_0, xb_1, reduceIte, one0, Option.isNone_none, ne_eq, not_true_eq_false, not_false_eq_true, if_true, if_false, ite_not, Bool.true_and, Bool.and_true]
      · rw [if_pos ⟨rfl, e⟩]
        exact l
    · refine ⟨q, ?_, flat_rf q, ?_⟩
      · rw [bq_176_238, zI_t, if_neg (by decide)]
        simp (decide := true) (disch := omega) only [rq_176_243, Option.bind_some, xasI, xasL, xasR, xin_t, cond_true, cond_false, nI_clamp, k_0, k_1, k_2, k_3, k_4, k_5, k_6, k_40, k_60, k_500, k_10000, pk_mul, nI_add, nI_e0, nI_ee, nI_leI, nI_ltI, xbool0, xbool1, xbn0, xbn1, xb_0, xb_1, reduceIte, one0, Option.isNone_none, ne_eq, not_true_eq_false, not_false_eq_true, if_true, if_false, ite_not, Bool.true_and, Bool.and_true]
        rw [if_neg e, bq_176_259]
      · rw [if_neg (fun h => e h.2)]
        exact h0
/-- lay within does: pc 199 -/
theorem c_does_y {T0 MI B p kind : Nat} {q : xrho} {M : xM} {R : Nat → RW} {S : Nat → List Int32} {K : Nat → KW} {key : Int32} {v : Int64} {o2 o4 o5 o6 o8 o9 o10 : Option xV} (h0 : LAok q R S K) (hp : p < 240) (hk5 : kind < 5) (ha : (addK (S p) key).length < 500) : ∃ q', xZ T0 MI 176 199 [some (vr (some B)), some (vi (nI p)), o2, some (vi key), o4, o5, o6, some (vi (nI kind)), o8, o9, o10] [vl v] (rput B q M) = some (none, rput B q' M) ∧ flat (bif (putL (R p) key v).1 then (if kind = 3 then rupL q 89 0 v else q) else rup (rupL q 89 0 0) 90 0 (nI 2)) q' ∧ LAok q' (va_up R p (putL (R p) key v).2) (doS (putL (R p) key v).1 (q.1 15 p) S p key) K := by
  obtain ⟨f1, l1, g1⟩ := glay_LA (key := key) (v := v) h0 hp
  rw [rq_176_199, c_lay hp (h0.1 p hp).2.1 (h0.1 p hp).1, g1]
  have e15 : (glay q p (R p).length key v).2.1 15 = q.1 15 := f1.1 15 (by decide) (by decide) (by decide) (by decide) (by decide) (by decide) (by decide)
  generalize hz : (glay q p (R p).length key v).2 = z at f1 l1 e15
  -- behind 209
  have key1 : ∃ z', xZ T0 MI 176 209 [some (vr (some B)), some (vi (nI p)), o2, some (vi key), o4, o5, o6, some (vi (nI kind)), xinv o8, some (vl v), none] [vi (zI (putL (R p) key v).1)] (rput B z M) = xZ T0 MI 176 238 [some (vr (some B)), some (vi (nI p)), o2, some (vi key), o4, o5, o6, some (vi (nI kind)), some (vi (zI (putL (R p) key v).1)), some (vl v), none] [] (rput B z' M) ∧ flat (bif (putL (R p) key v).1 then (if kind = 3 then rupL q 89 0 v else q) else rup (rupL q 89 0 0) 90 0 (nI 2)) z' ∧ z'.1 15 = q.1 15 ∧ LAok z' (va_up R p (putL (R p) key v).2) S K := by
    have s1 : xZ T0 MI 176 209 [some (vr (some B)), some (vi (nI p)), o2, some (vi key), o4, o5, o6, some (vi (nI kind)), xinv o8, some (vl v), none] [vi (zI (putL (R p) key v).1)] (rput B z M) = xZ T0 MI 176 223 [some (vr (some B)), some (vi (nI p)), o2, some (vi key), o4, o5, o6, some (vi (nI kind)), some (vi (zI (putL (R p) key v).1)), some (vl v), none] [] (rput B (if kind = 3 then rupL z 89 0 v else z) M) := by
      rw [bq_176_209, k_3]
      by_cases e : kind = 3
      · rw [if_pos (by rw [e]), if_pos e, rq_176_217]
      · rw [if_neg (by rw [nI_ee (by omega) (by omega)]; exact e), if_neg e]
    have l2 : LAok (if kind = 3 then rupL z 89 0 v else z) (va_up R p (putL (R p) key v).2) S K := by
      split
      · exact LA_c l1 (fun _ _ => rfl) rfl rfl
      · exact l1
    have f2 : flat (if kind = 3 then rupL q 89 0 v else q) (if kind = 3 then rupL z 89 0 v else z) := by
      split
      · exact flat_upL f1 _ _ _
      · exact f1
    have e2 : (if kind = 3 then rupL z 89 0 v else z).1 15 = q.1 15 := by
      split
      · exact e15
      · exact e15
    rw [s1, bq_176_223]
    cases hb : (putL (R p) key v).1 with
    | true =>
      exact ⟨_, by rw [zI_t, if_neg (by decide)], f2, e2, l2⟩
    | false =>
      refine ⟨rup (rupL (if kind = 3 then rupL z 89 0 v else z) 89 0 0) 90 0 (nI 2), ?_, ?_, e2, LA_c l2 (fun k hk => by rcases hk with e | e | e | e | e | e | e <;> subst e <;> rfl) rfl rfl⟩
      · rw [zI_f, if_pos rfl, rq_176_228]
        rfl
      · show flat (rup (rupL q 89 0 0) 90 0 (nI 2)) _
        refine flat_up ?_ _ _ _
        have h3 : rupL (if kind = 3 then rupL z 89 0 v else z) 89 0 0 = rupL z 89 0 0 := by
          split
          · refine xr_ext (fun _ _ => rfl) (fun f x => ?_)
            rw [rupL_r, rupL_r, rupL_r]
            by_cases e : f = 89 ∧ x = 0
            · rw [if_pos e, if_pos e]
            · rw [if_neg e, if_neg e, if_neg e]
          · rfl
        rw [h3]
        exact flat_upL f1 _ _ _
  obtain ⟨z', k1, k2, k3, k4⟩ := key1
  obtain ⟨q', e, f, l⟩ := c_does_t (T0 := T0) (MI := MI) (B := B) (M := M) (o2 := o2) (o4 := o4) (o5 := o5) (o6 := o6) (o7 := some (vi (nI kind))) (o9 := some (vl v)) (o10 := none) (b := (putL (R p) key v).1) (key := key) k4 hp ha
  rw [k3] at l
  refine ⟨q', ?_, flat_tr k2 f, l⟩
  show xZ T0 MI 176 209 [some (vr (some B)), some (vi (nI p)), o2, some (vi key), o4, o5, o6, some (vi (nI kind)), xinv o8, some (vl v), none] [vi (zI (putL (R p) key v).1)] (rput B z M) = _
  rw [k1, e]
theorem c_does {T0 MI B p c kind : Nat} {q : xrho} {M : xM} {R : Nat → RW} {S : Nat → List Int32} {K : Nat → KW} {o3 o4 o5 o6 o7 o8 o9 o10 : Option xV} (h0 : LAok q R S K) (hp : p < 240) (hc : c < 360) (hk : q.1 47 c = nI kind) (hk5 : kind < 5) (ha : (addK (S p) (q.1 48 c)).length < 500) : ∃ q', xZ T0 MI 176 0 [some (vr (some B)), some (vi (nI p)), some (vi (nI c)), o3, o4, o5, o6, o7, o8, o9, o10] [] (rput B q M) = some (none, rput B q' M) ∧ flat (rup (rupL q 89 0 (doA (R p) kind (q.1 48 c) (q.2 51 c) (q.2 52 c)).2.1) 90 0 (doA (R p) kind (q.1 48 c) (q.2 51 c) (q.2 52 c)).2.2.1) q' ∧ LAok q' (va_up R p (doA (R p) kind (q.1 48 c) (q.2 51 c) (q.2 52 c)).1) (doS (doA (R p) kind (q.1 48 c) (q.2 51 c) (q.2 52 c)).2.2.2 (q.1 15 p) S p (q.1 48 c)) K := by
  obtain ⟨o, ho1, ho2, e0⟩ := c_does_a (T0 := T0) (MI := MI) (B := B) (M := M) (o3 := o3) (o4 := o4) (o5 := o5) (o6 := o6) (o7 := o7) (o8 := o8) (o9 := o9) (o10 := o10) (h0.1 p hp) hp hc hk hk5
  rw [e0]
  clear e0
  have hlk : ∀ x, lkp Prod.fst (q.1 48 c) (R p) = some x → x.1 = q.1 48 c := fun x hx => (lkp_some hx).2
  generalize hkey : q.1 48 c = key at *
  generalize hv : q.2 51 c = v
  generalize hw : q.2 52 c = w
  have lz : ∀ a b, LAok (rup (rupL q 89 0 a) 90 0 b) R S K := fun a b => LA_c h0 (fun k hk => by rcases hk with e | e | e | e | e | e | e <;> subst e <;> rfl) rfl rfl
  have neg : o.isSome = false → rfndI o (60 * p) < 0 := by
    intro h
    cases o with
    | none => exact (by decide : Int32.ofInt (-1) < 0)
    | some j => cases h
  have pos : o.isSome = true → ¬ rfndI o (60 * p) < 0 := by
    intro h
    cases o with
    | none => cases h
    | some j => exact nI_pos (by have := ho1 j rfl; omega)
  have dS0 : ∀ st, doS false st S p key = S := fun st => by unfold doS; rw [if_neg (by simp)]
  rcases (show kind = 0 ∨ kind = 1 ∨ kind = 2 ∨ kind = 3 ∨ kind = 4 by omega) with rfl | rfl | rfl | rfl | rfl
  · rw [if_pos rfl]
    refine ⟨_, rfl, flat_rf _, ?_⟩
    show LAok _ (va_up R p (R p)) (doS false _ S p key) K
    rw [dS0, va_up_id]
    exact lz _ _
  · rw [if_neg (by decide)]
    obtain ⟨q', e, f, l⟩ := c_does_y (T0 := T0) (MI := MI) (B := B) (M := M) (o2 := some (vi (nI c))) (o4 := some (vi (rfndI o (60 * p)))) (o5 := some (vl (lkv (lkp Prod.fst key (R p))))) (o6 := none) (o8 := some (vi (nI 1))) (o9 := o9) (o10 := o10) (kind := 1) (key := key) (v := v) (lz (lkv (lkp Prod.fst key (R p))) (zI (lkp Prod.fst key (R p)).isSome)) hp (by omega) ha
    refine ⟨q', ?_, ?_, ?_⟩
    · rw [← e]
      simp (decide := true) (disch := omega) only [bq_176_67, bq_176_86, bq_176_117, bq_176_118, bq_176_140, bq_176_155, bq_176_160, rq_176_166, Option.bind_some, xasI, xasL, xasR, xin_t, cond_true, cond_false, nI_clamp, k_0, k_1, k_2, k_3, k_4, k_5, k_6, k_40, k_60, k_500, k_10000, pk_mul, nI_add, nI_e0, nI_ee, nI_leI, nI_ltI, xbool0, xbool1, xbn0, xbn1, xb_0, xb_1, reduceIte, one0, Option.isNone_none, ne_eq, not_true_eq_false, not_false_eq_true, if_true, if_false, ite_not, Bool.true_and, Bool.and_true, rup_2, rupL_ne, hv]
    · unfold doA
      cases hb : (putL (R p) key v).1 with
      | true =>
        rw [hb] at f
        exact f
      | false =>
        rw [hb] at f
        refine flat_tr ?_ f
        refine ⟨fun k _ _ _ _ _ _ _ => ?_, fun k _ _ => ?_⟩
        · funext x
          show (rup (rupL (rup (rupL q 89 0 _) 90 0 _) 89 0 0) 90 0 (nI 2)).1 k x = (rup (rupL q 89 0 0) 90 0 (nI 2)).1 k x
          rw [rup_r, rup_r, rupL_1, rupL_1, rup_r, rupL_1]
          by_cases e : k = 90 ∧ x = 0
          · rw [if_pos e, if_pos e]
          · rw [if_neg e, if_neg e, if_neg e]
        · funext x
          show (rup (rupL (rup (rupL q 89 0 _) 90 0 _) 89 0 0) 90 0 (nI 2)).2 k x = (rup (rupL q 89 0 0) 90 0 (nI 2)).2 k x
          rw [rup_2, rup_2, rupL_r, rupL_r, rup_2, rupL_r]
          by_cases e : k = 89 ∧ x = 0
          · rw [if_pos e, if_pos e]
          · rw [if_neg e, if_neg e, if_neg e]
    · unfold doA
      cases hb : (putL (R p) key v).1 with
      | true =>
        rw [hb] at l
        exact l
      | false =>
        rw [hb] at l
        have e2 : (putL (R p) key v).2 = R p := by
          unfold putL at hb ⊢
          split at hb
          · cases hb
          · split at hb
            · rename_i h60
              rename_i h61
              simp only [h61, h60, if_true]
            · cases hb
        rw [e2] at l
        exact l
  · rw [if_neg (by decide)]
    obtain ⟨f1, l1⟩ := gstrike_LA (key := key) (lz (lkv (lkp Prod.fst key (R p))) (zI (lkp Prod.fst key (R p)).isSome)) hp
    obtain ⟨q', e, f, l⟩ := c_does_t (T0 := T0) (MI := MI) (B := B) (M := M) (o2 := some (vi (nI c))) (o4 := some (vi (rfndI o (60 * p)))) (o5 := some (vl (lkv (lkp Prod.fst key (R p))))) (o6 := none) (o7 := some (vi (nI 2))) (o9 := o9) (o10 := o10) (b := (lkp Prod.fst key (R p)).isSome) (key := key) l1 hp ha
    have e15 := f1.1 15 (by decide) (by decide) (by decide) (by decide) (by decide) (by decide) (by decide)
    rw [e15] at l
    refine ⟨q', ?_, flat_tr f1 f, l⟩
    rw [← e]
    have hr := lz (lkv (lkp Prod.fst key (R p))) (zI (lkp Prod.fst key (R p)).isSome)
    have hstr := c_strike (T0 := T0) (MI := MI) (B := B) (M := M) (key := key) (o3 := none) hp (hr.1 p hp).2.1 (hr.1 p hp).1
    cases hs : (lkp Prod.fst key (R p)).isSome with
    | true =>
      rw [hs] at ho2 hstr
      rw [zI_t] at hstr
      simp (decide := true) (disch := omega) only [bq_176_67, bq_176_73, Option.bind_some, xasI, xasL, xasR, xin_t, cond_true, cond_false, nI_clamp, k_0, k_1, k_2, k_3, k_4, k_5, k_6, k_40, k_60, k_500, k_10000, pk_mul, nI_add, nI_e0, nI_ee, nI_leI, nI_ltI, xbool0, xbool1, xbn0, xbn1, xb_0, xb_1, reduceIte, one0, Option.isNone_none, ne_eq, not_true_eq_false, not_false_eq_true, if_true, if_false, ite_not, Bool.true_and, Bool.and_true]
      rw [if_neg (pos ho2)]
      simp (decide := true) (disch := omega) only [bq_176_78, bq_176_118, bq_176_140, rq_176_146, bq_176_152, Option.bind_some, xasI, xasL, xasR, xin_t, cond_true, cond_false, nI_clamp, k_0, k_1, k_2, k_3, k_4, k_5, k_6, k_40, k_60, k_500, k_10000, pk_mul, nI_add, nI_e0, nI_ee, nI_leI, nI_ltI, xbool0, xbool1, xbn0, xbn1, xb_0, xb_1, reduceIte, one0, Option.isNone_none, ne_eq, not_true_eq_false, not_false_eq_true, if_true, if_false, ite_not, Bool.true_and, Bool.and_true, hstr, zI_t]
      rfl
    | false =>
      rw [hs] at ho2 hstr
      rw [zI_f] at hstr
      simp (decide := true) (disch := omega) only [bq_176_67, bq_176_73, Option.bind_some, xasI, xasL, xasR, xin_t, cond_true, cond_false, nI_clamp, k_0, k_1, k_2, k_3, k_4, k_5, k_6, k_40, k_60, k_500, k_10000, pk_mul, nI_add, nI_e0, nI_ee, nI_leI, nI_ltI, xbool0, xbool1, xbn0, xbn1, xb_0, xb_1, reduceIte, one0, Option.isNone_none, ne_eq, not_true_eq_false, not_false_eq_true, if_true, if_false, ite_not, Bool.true_and, Bool.and_true]
      rw [if_pos (neg ho2)]
      simp (decide := true) (disch := omega) only [bq_176_82, bq_176_118, bq_176_140, rq_176_146, bq_176_152, Option.bind_some, xasI, xasL, xasR, xin_t, cond_true, cond_false, nI_clamp, k_0, k_1, k_2, k_3, k_4, k_5, k_6, k_40, k_60, k_500, k_10000, pk_mul, nI_add, nI_e0, nI_ee, nI_leI, nI_ltI, xbool0, xbool1, xbn0, xbn1, xb_0, xb_1, reduceIte, one0, Option.isNone_none, ne_eq, not_true_eq_false, not_false_eq_true, if_true, if_false, ite_not, Bool.true_and, Bool.and_true, hstr, zI_f]
      rfl
  · rw [if_neg (by decide)]
    obtain ⟨q', e, f, l⟩ := c_does_y (T0 := T0) (MI := MI) (B := B) (M := M) (o2 := some (vi (nI c))) (o4 := some (vi (rfndI o (60 * p)))) (o5 := some (vl (lkv (lkp Prod.fst key (R p))))) (o6 := none) (o8 := some (vi (nI 1))) (o9 := o9) (o10 := o10) (kind := 3) (key := key) (v := lkv (lkp Prod.fst key (R p)) + v) (lz (lkv (lkp Prod.fst key (R p))) (zI (lkp Prod.fst key (R p)).isSome)) hp (by omega) ha
    refine ⟨q', ?_, ?_, ?_⟩
    · rw [← e]
      simp (decide := true) (disch := omega) only [bq_176_67, bq_176_86, bq_176_117, bq_176_118, bq_176_140, bq_176_155, bq_176_160, bq_176_175, rq_176_181, Option.bind_some, xasI, xasL, xasR, xin_t, cond_true, cond_false, nI_clamp, k_0, k_1, k_2, k_3, k_4, k_5, k_6, k_40, k_60, k_500, k_10000, pk_mul, nI_add, nI_e0, nI_ee, nI_leI, nI_ltI, xbool0, xbool1, xbn0, xbn1, xb_0, xb_1, reduceIte, one0, Option.isNone_none, ne_eq, not_true_eq_false, not_false_eq_true, if_true, if_false, ite_not, Bool.true_and, Bool.and_true, rup_2, rupL_ne, hv]
    · unfold doA
      refine flat_tr ?_ f
      cases hb : (putL (R p) key (lkv (lkp Prod.fst key (R p)) + v)).1 with
      | true =>
        refine ⟨fun k _ _ _ _ _ _ _ => rfl, fun k _ _ => ?_⟩
        funext x
        show (rupL (rup (rupL q 89 0 _) 90 0 _) 89 0 _).2 k x = (rup (rupL q 89 0 _) 90 0 _).2 k x
        rw [rup_2, rupL_r, rupL_r, rup_2, rupL_r]
        by_cases e : k = 89 ∧ x = 0
        · rw [if_pos e, if_pos e]
          rfl
        · rw [if_neg e, if_neg e, if_neg e]
      | false =>
        refine ⟨fun k _ _ _ _ _ _ _ => ?_, fun k _ _ => ?_⟩
        · funext x
          show (rup (rupL (rup (rupL q 89 0 _) 90 0 _) 89 0 0) 90 0 (nI 2)).1 k x = (rup (rupL q 89 0 0) 90 0 (nI 2)).1 k x
          rw [rup_r, rup_r, rupL_1, rupL_1, rup_r, rupL_1]
          by_cases e : k = 90 ∧ x = 0
          · rw [if_pos e, if_pos e]
          · rw [if_neg e, if_neg e, if_neg e]
        · funext x
          show (rup (rupL (rup (rupL q 89 0 _) 90 0 _) 89 0 0) 90 0 (nI 2)).2 k x = (rup (rupL q 89 0 0) 90 0 (nI 2)).2 k x
          rw [rup_2, rup_2, rupL_r, rupL_r, rup_2, rupL_r]
          by_cases e : k = 89 ∧ x = 0
          · rw [if_pos e, if_pos e]
          · rw [if_neg e, if_neg e, if_neg e]
    · unfold doA
      cases hb : (putL (R p) key (lkv (lkp Prod.fst key (R p)) + v)).1 with
      | true =>
        rw [hb] at l
        exact l
      | false =>
        rw [hb] at l
        have e2 : (putL (R p) key (lkv (lkp Prod.fst key (R p)) + v)).2 = R p := by
          unfold putL at hb ⊢
          split at hb
          · cases hb
          · split at hb
            · rename_i h60
              rename_i h61
              simp only [h61, h60, if_true]
            · cases hb
        rw [e2] at l
        exact l
  · rw [if_neg (by decide)]
    have st0 : ∀ b : Bool, xZ T0 MI 176 118 [some (vr (some B)), some (vi (nI p)), some (vi (nI c)), some (vi key), some (vi (rfndI o (60 * p))), some (vl (lkv (lkp Prod.fst key (R p)))), none, some (vi (nI 4)), o8, o9, o10] [vi (zI b)] (rput B (rup (rupL q 89 0 (lkv (lkp Prod.fst key (R p)))) 90 0 (zI (lkp Prod.fst key (R p)).isSome)) M) = xZ T0 MI 176 155 [some (vr (some B)), some (vi (nI p)), some (vi (nI c)), some (vi key), some (vi (rfndI o (60 * p))), some (vl (lkv (lkp Prod.fst key (R p)))), none, some (vi (nI 4)), some (vi (zI b)), o9, o10] [] (rput B (rup (rupL q 89 0 (lkv (lkp Prod.fst key (R p)))) 90 0 (zI b)) M) := by
      intro b
      have e90 : ∀ x, rup (rup (rupL q 89 0 (lkv (lkp Prod.fst key (R p)))) 90 0 (zI (lkp Prod.fst key (R p)).isSome)) 90 0 x = rup (rupL q 89 0 (lkv (lkp Prod.fst key (R p)))) 90 0 x := by
        intro x
        refine xr_ext (fun f y => ?_) (fun _ _ => rfl)
        rw [rup_r, rup_r, rup_r]
        by_cases e : f = 90 ∧ y = 0
        · rw [if_pos e, if_pos e]
        · rw [if_neg e, if_neg e, if_neg e]
      cases b with
      | true =>
        simp (decide := true) (disch := omega) only [bq_176_118, bq_176_126, bq_176_132, rq_176_137, bq_176_140, Option.bind_some, xasI, xasL, xasR, xin_t, cond_true, cond_false, nI_clamp, k_0, k_1, k_2, k_3, k_4, k_5, k_6, k_40, k_60, k_500, k_10000, pk_mul, nI_add, nI_e0, nI_ee, nI_leI, nI_ltI, xbool0, xbool1, xbn0, xbn1, xb_0, xb_1, reduceIte, one0, Option.isNone_none, ne_eq, not_true_eq_false, not_false_eq_true, if_true, if_false, ite_not, Bool.true_and, Bool.and_true, zI_t, e90]
        rfl
      | false =>
        simp (decide := true) (disch := omega) only [bq_176_118, bq_176_126, bq_176_136, rq_176_137, bq_176_140, Option.bind_some, xasI, xasL, xasR, xin_t, cond_true, cond_false, nI_clamp, k_0, k_1, k_2, k_3, k_4, k_5, k_6, k_40, k_60, k_500, k_10000, pk_mul, nI_add, nI_e0, nI_ee, nI_leI, nI_ltI, xbool0, xbool1, xbn0, xbn1, xb_0, xb_1, reduceIte, one0, Option.isNone_none, ne_eq, not_true_eq_false, not_false_eq_true, if_true, if_false, ite_not, Bool.true_and, Bool.and_true, zI_f, e90]
        rfl
    have off : (lkp Prod.fst key (R p)).isSome = false ∨ lkv (lkp Prod.fst key (R p)) ≠ v → xZ T0 MI 176 67 [some (vr (some B)), some (vi (nI p)), some (vi (nI c)), some (vi key), some (vi (rfndI o (60 * p))), some (vl (lkv (lkp Prod.fst key (R p)))), none, some (vi (nI 4)), o8, o9, o10] [] (rput B (rup (rupL q 89 0 (lkv (lkp Prod.fst key (R p)))) 90 0 (zI (lkp Prod.fst key (R p)).isSome)) M) = some (none, rput B (rup (rupL q 89 0 (lkv (lkp Prod.fst key (R p)))) 90 0 0) M) := by
      intro h
      have s2 : xZ T0 MI 176 113 [some (vr (some B)), some (vi (nI p)), some (vi (nI c)), some (vi key), some (vi (rfndI o (60 * p))), some (vl (lkv (lkp Prod.fst key (R p)))), none, some (vi (nI 4)), o8, o9, o10] [] (rput B (rup (rupL q 89 0 (lkv (lkp Prod.fst key (R p)))) 90 0 (zI (lkp Prod.fst key (R p)).isSome)) M) = some (none, rput B (rup (rupL q 89 0 (lkv (lkp Prod.fst key (R p)))) 90 0 0) M) := by
        rw [bq_176_113, show Int32.ofInt 0 = zI false from rfl, st0 false, bq_176_155, zI_f, if_pos rfl, bq_176_238, if_pos rfl, bq_176_259]
      simp (decide := true) (disch := omega) only [bq_176_67, bq_176_86, bq_176_92, Option.bind_some, xasI, xasL, xasR, xin_t, cond_true, cond_false, nI_clamp, k_0, k_1, k_2, k_3, k_4, k_5, k_6, k_40, k_60, k_500, k_10000, pk_mul, nI_add, nI_e0, nI_ee, nI_leI, nI_ltI, xbool0, xbool1, xbn0, xbn1, xb_0, xb_1, reduceIte, one0, Option.isNone_none, ne_eq, not_true_eq_false, not_false_eq_true, if_true, if_false, ite_not, Bool.true_and, Bool.and_true]
      by_cases e : rfndI o (60 * p) < 0
      · rw [if_pos e, s2]
      · rw [if_neg e]
        have hs : (lkp Prod.fst key (R p)).isSome = true := by
          cases hs : (lkp Prod.fst key (R p)).isSome with
          | true => rfl
          | false => exact absurd (neg (ho2.trans hs)) e
        simp (decide := true) (disch := omega) only [rq_176_97, Option.bind_some, xasI, xasL, xasR, xin_t, cond_true, cond_false, nI_clamp, k_0, k_1, k_2, k_3, k_4, k_5, k_6, k_40, k_60, k_500, k_10000, pk_mul, nI_add, nI_e0, nI_ee, nI_leI, nI_ltI, xbool0, xbool1, xbn0, xbn1, xb_0, xb_1, reduceIte, one0, Option.isNone_none, ne_eq, not_true_eq_false, not_false_eq_true, if_true, if_false, ite_not, Bool.true_and, Bool.and_true, rup_2, rupL_ne, cmp_0, hv]
        rw [if_neg (h.elim (fun h => by rw [hs] at h; cases h) id), s2]
    by_cases hs : (lkp Prod.fst key (R p)).isSome = true ∧ lkv (lkp Prod.fst key (R p)) = v
    · obtain ⟨q', e, f, l⟩ := c_does_y (T0 := T0) (MI := MI) (B := B) (M := M) (o2 := some (vi (nI c))) (o4 := some (vi (rfndI o (60 * p)))) (o5 := some (vl (lkv (lkp Prod.fst key (R p))))) (o6 := none) (o8 := some (vi (zI true))) (o9 := o9) (o10 := o10) (kind := 4) (key := key) (v := w) (lz (lkv (lkp Prod.fst key (R p))) (zI true)) hp (by omega) ha
      have hput : (putL (R p) key w).1 = true := by
        unfold putL
        cases hh : lkp Prod.fst key (R p) with
        | none => rw [hh] at hs; cases hs.1
        | some x => rfl
      refine ⟨q', ?_, ?_, ?_⟩
      · rw [← e]
        simp (decide := true) (disch := omega) only [bq_176_67, bq_176_86, bq_176_92, Option.bind_some, xasI, xasL, xasR, xin_t, cond_true, cond_false, nI_clamp, k_0, k_1, k_2, k_3, k_4, k_5, k_6, k_40, k_60, k_500, k_10000, pk_mul, nI_add, nI_e0, nI_ee, nI_leI, nI_ltI, xbool0, xbool1, xbn0, xbn1, xb_0, xb_1, reduceIte, one0, Option.isNone_none, ne_eq, not_true_eq_false, not_false_eq_true, if_true, if_false, ite_not, Bool.true_and, Bool.and_true]
        rw [if_neg (pos (ho2.trans hs.1))]
        simp (decide := true) (disch := omega) only [rq_176_97, Option.bind_some, xasI, xasL, xasR, xin_t, cond_true, cond_false, nI_clamp, k_0, k_1, k_2, k_3, k_4, k_5, k_6, k_40, k_60, k_500, k_10000, pk_mul, nI_add, nI_e0, nI_ee, nI_leI, nI_ltI, xbool0, xbool1, xbn0, xbn1, xb_0, xb_1, reduceIte, one0, Option.isNone_none, ne_eq, not_true_eq_false, not_false_eq_true, if_true, if_false, ite_not, Bool.true_and, Bool.and_true, rup_2, rupL_ne, cmp_0, hv]
        rw [if_pos hs.2, bq_176_109, show Int32.ofInt 1 = zI true from rfl, st0 true, bq_176_155, zI_t, if_neg (by decide)]
        simp (decide := true) (disch := omega) only [bq_176_160, bq_176_175, rq_176_193, Option.bind_some, xasI, xasL, xasR, xin_t, cond_true, cond_false, nI_clamp, k_0, k_1, k_2, k_3, k_4, k_5, k_6, k_40, k_60, k_500, k_10000, pk_mul, nI_add, nI_e0, nI_ee, nI_leI, nI_ltI, xbool0, xbool1, xbn0, xbn1, xb_0, xb_1, reduceIte, one0, Option.isNone_none, ne_eq, not_true_eq_false, not_false_eq_true, if_true, if_false, ite_not, Bool.true_and, Bool.and_true, rup_2, rupL_ne, hw]
      · unfold doA
        rw [hput] at f
        rw [show ((lkp Prod.fst key (R p)).isSome && decide (lkv (lkp Prod.fst key (R p)) = v)) = true by simp [hs.1, hs.2]]
        rw [hs.2] at f
        exact f
      · unfold doA
        rw [show ((lkp Prod.fst key (R p)).isSome && decide (lkv (lkp Prod.fst key (R p)) = v)) = true by simp [hs.1, hs.2]]
        rw [hput] at l
        exact l
    · have hs2 : (lkp Prod.fst key (R p)).isSome = false ∨ lkv (lkp Prod.fst key (R p)) ≠ v := by
        cases hh : (lkp Prod.fst key (R p)).isSome with
        | false => exact Or.inl rfl
        | true => exact Or.inr (fun e => hs ⟨hh, e⟩)
      rw [off hs2]
      unfold doA
      rw [show ((lkp Prod.fst key (R p)).isSome && decide (lkv (lkp Prod.fst key (R p)) = v)) = false by
        rcases hs2 with h | h
        · simp [h]
        · simp [h]]
      refine ⟨_, rfl, flat_rf _, ?_⟩
      show LAok _ (va_up R p (R p)) (doS false _ S p key) K
      rw [dS0, va_up_id]
      exact lz _ _
