/-! WHAT IS EXACT (fl2), AND THE LISTS: R rows, S keys to send, K kept, Z kept that letters bear -/
def nf1 (k : Nat) : Bool := Nat.beq k 19 || (Nat.beq k 20 || (Nat.beq k 25 || (Nat.beq k 26 || (Nat.beq k 34 || (Nat.beq k 35 || (Nat.beq k 36 || (Nat.beq k 78 || (Nat.beq k 79 || Nat.beq k 80))))))))
def nf2 (k : Nat) : Bool := Nat.beq k 27 || (Nat.beq k 37 || Nat.beq k 81)
def fl2 (q q' : xrho) : Prop := (∀ k, nf1 k = false → q'.1 k = q.1 k) ∧ ∀ k, nf2 k = false → q'.2 k = q.2 k
theorem fl2_rf (q : xrho) : fl2 q q := ⟨fun _ _ => rfl, fun _ _ => rfl⟩
theorem fl2_tr {a b c : xrho} (h : fl2 a b) (h2 : fl2 b c) : fl2 a c := ⟨fun k hk => (h2.1 k hk).trans (h.1 k hk), fun k hk => (h2.2 k hk).trans (h.2 k hk)⟩
theorem fl2_sm {a b : xrho} (h : fl2 a b) : fl2 b a := ⟨fun k hk => (h.1 k hk).symm, fun k hk => (h.2 k hk).symm⟩
theorem fl2_up {a b : xrho} (h : fl2 a b) (k i : Nat) (x : Int32) : fl2 (rup a k i x) (rup b k i x) := by
  refine ⟨fun k' hk => ?_, h.2⟩
  unfold rup
  dsimp only
  by_cases e : k' = k
  · subst e
    rw [va_up_self, va_up_self, h.1 _ hk]
  · rw [va_up_ne _ _ e, va_up_ne _ _ e]
    exact h.1 _ hk
theorem fl2_upL {a b : xrho} (h : fl2 a b) (k i : Nat) (x : Int64) : fl2 (rupL a k i x) (rupL b k i x) := by
  refine ⟨h.1, fun k' hk => ?_⟩
  unfold rupL
  dsimp only
  by_cases e : k' = k
  · subst e
    rw [va_up_self, va_up_self, h.2 _ hk]
  · rw [va_up_ne _ _ e, va_up_ne _ _ e]
    exact h.2 _ hk
theorem nf_ne {f : Nat → Bool} {k j : Nat} (h : f k = false) (hj : f j = true) : k ≠ j := fun e => by rw [e, hj] at h; cases h
theorem fl2_of {a b : xrho} (h : flat a b) : fl2 a b := ⟨fun k hk => h.1 k (nf_ne hk rfl) (nf_ne hk rfl) (nf_ne hk rfl) (nf_ne hk rfl) (nf_ne hk rfl) (nf_ne hk rfl) (nf_ne hk rfl), fun k hk => h.2 k (nf_ne hk rfl) (nf_ne hk rfl)⟩
def PL (q : xrho) (c : Nat) (k : KW) : Prop := q.1 78 c = nI k.length ∧ k.length ≤ 4 ∧ lkeptV q c = k ∧ srt Prod.fst k
def LXok (q : xrho) (R : Nat → RW) (S : Nat → List Int32) (K Z : Nat → KW) : Prop := LAok q R S K ∧ ∀ c, c < 7200 → PL q c (Z c)
theorem LX_of {q q' : xrho} {R R' : Nat → RW} {S S' : Nat → List Int32} {K K' Z : Nat → KW} (h : LXok q R S K Z) (hf : flat q q') (h2 : LAok q' R' S' K') : LXok q' R' S' K' Z := by
  refine ⟨h2, fun c hc => ?_⟩
  have := h.2 c hc
  unfold PL lkeptV nu at this ⊢
  rw [hf.1 78 (by decide) (by decide) (by decide) (by decide) (by decide) (by decide) (by decide), hf.1 79 (by decide) (by decide) (by decide) (by decide) (by decide) (by decide) (by decide), hf.1 80 (by decide) (by decide) (by decide) (by decide) (by decide) (by decide) (by decide), hf.2 81 (by decide) (by decide)]
  exact this
theorem LX_c {q q' : xrho} {R : Nat → RW} {S : Nat → List Int32} {K Z : Nat → KW} (h : LXok q R S K Z) (h1 : ∀ k, nf1 k = true → q'.1 k = q.1 k) (h2 : ∀ k, nf2 k = true → q'.2 k = q.2 k) : LXok q' R S K Z := by
  refine ⟨LA_c h.1 (fun k hk => h1 k (by rcases hk with e | e | e | e | e | e | e <;> rw [e] <;> rfl)) (h2 27 rfl) (h2 37 rfl), fun c hc => ?_⟩
  have := h.2 c hc
  unfold PL lkeptV nu at this ⊢
  rw [h1 78 rfl, h1 79 rfl, h1 80 rfl, h2 81 rfl]
  exact this
theorem LX_up {q : xrho} {R : Nat → RW} {S : Nat → List Int32} {K Z : Nat → KW} {k i : Nat} {x : Int32} (hk : nf1 k = false) (h : LXok q R S K Z) : LXok (rup q k i x) R S K Z := LX_c h (fun k' hk' => rup_ne _ _ _ _ (Ne.symm (nf_ne hk hk'))) (fun _ _ => rfl)
theorem LX_upL {q : xrho} {R : Nat → RW} {S : Nat → List Int32} {K Z : Nat → KW} {k i : Nat} {x : Int64} (hk : nf2 k = false) (h : LXok q R S K Z) : LXok (rupL q k i x) R S K Z := LX_c h (fun _ _ => rfl) (fun k' hk' => rupL_ne _ _ _ _ (Ne.symm (nf_ne hk hk')))
theorem PR_get {q : xrho} {p k : Nat} {l : RW} (h : PR q p l) (hk : k < l.length) : q.1 20 (60 * p + k) = (l[k]).1 ∧ q.2 27 (60 * p + k) = (l[k]).2 := by
  have e1 : (rowsV q p)[k]? = some (q.1 20 (60 * p + k), q.2 27 (60 * p + k)) := win_get (by rw [PR_nu h]; exact hk)
  rw [h.2.2.1, List.getElem?_eq_getElem hk] at e1
  rw [Option.some.inj e1]
  exact ⟨rfl, rfl⟩
theorem PS_get {q : xrho} {p k : Nat} {l : List Int32} (h : PS q p l) (hk : k < l.length) : q.1 26 (500 * p + k) = l[k] := by
  have e1 : (sendV q p)[k]? = some (q.1 26 (500 * p + k)) := win_get (by rw [PS_nu h]; exact hk)
  rw [h.2.2.1, List.getElem?_eq_getElem hk] at e1
  exact (Option.some.inj e1).symm
/-! THE REFERENCE'S merge -/
def putA (l : RW) (x : Int32 × Int64) : RW := (putL l x.1 x.2).2
theorem take_s {α : Type} (l : List α) {k : Nat} (h : k < l.length) : l.take (k + 1) = l.take k ++ [l[k]] := by simp
theorem c_merge_l {T0 MI B p py : Nat} {M : xM} {R0 : Nat → RW} {S : Nat → List Int32} {K : Nat → KW} {x1 : Int32} {o2 : Option xV} (hp : p < 240) (hpy : py < 240) (hne : py ≠ p) : ∀ m k, k + m = (R0 py).length → ∀ (q : xrho) (o6 : Option xV), LAok q (va_up R0 p (((R0 py).take k).foldl putA (R0 p))) S K → ∃ (q' : xrho) (o5 o6' : Option xV), xZ T0 MI 160 298 [some (vr (some B)), some (vi x1), o2, some (vi (nI p)), some (vi (nI py)), some (vi (nI (60 * py + k))), o6] [] (rput B q M) = xZ T0 MI 160 343 [some (vr (some B)), some (vi x1), o2, some (vi (nI p)), some (vi (nI py)), o5, o6'] [] (rput B q' M) ∧ flat q q' ∧ LAok q' (va_up R0 p ((R0 py).foldl putA (R0 p))) S K := by
  intro m
  induction m with
  | zero =>
    intro k hk q o6 h
    have hP := h.1 py hpy
    rw [va_up_ne _ _ hne] at hP
    have b := hP.2.1
    refine ⟨q, some (vi (nI (60 * py + k))), o6, ?_, flat_rf q, ?_⟩
    · simp (decide := true) (disch := omega) only [rq_160_298, Option.bind_some, xasI, xasL, xasR, xin_t, cond_true, cond_false, nI_clamp, k_0, k_1, k_2, k_3, k_4, k_5, k_6, k_40, k_60, k_500, k_10000, pk_mul, nI_add, nI_e0, nI_ee, nI_leI, nI_ltI, xbool0, xbool1, xbn0, xbn1, xb_0, xb_1, reduceIte, one0, Option.isNone_none, ne_eq, not_true_eq_false, not_false_eq_true, if_true, if_false, ite_not, Bool.true_and, Bool.and_true, hP.1]
      rw [if_pos (by omega)]
    · rw [List.take_of_length_le (by omega)] at h
      exact h
  | succ m ih =>
    intro k hk q o6 h
    have hP := h.1 py hpy
    rw [va_up_ne _ _ hne] at hP
    have b := hP.2.1
    have hp2 := h.1 p hp
    obtain ⟨g1, g2⟩ := PR_get hP (k := k) (by omega)
    simp (decide := true) (disch := omega) only [rq_160_298, Option.bind_some, xasI, xasL, xasR, xin_t, cond_true, cond_false, nI_clamp, k_0, k_1, k_2, k_3, k_4, k_5, k_6, k_40, k_60, k_500, k_10000, pk_mul, nI_add, nI_e0, nI_ee, nI_leI, nI_ltI, xbool0, xbool1, xbn0, xbn1, xb_0, xb_1, reduceIte, one0, Option.isNone_none, ne_eq, not_true_eq_false, not_false_eq_true, if_true, if_false, ite_not, Bool.true_and, Bool.and_true, hP.1]
    rw [if_neg (by omega)]
    simp (decide := true) (disch := omega) only [rq_160_316, Option.bind_some, xasI, xasL, xasR, xin_t, cond_true, cond_false, nI_clamp, k_0, k_1, k_2, k_3, k_4, k_5, k_6, k_40, k_60, k_500, k_10000, pk_mul, nI_add, nI_e0, nI_ee, nI_leI, nI_ltI, xbool0, xbool1, xbn0, xbn1, xb_0, xb_1, reduceIte, one0, Option.isNone_none, ne_eq, not_true_eq_false, not_false_eq_true, if_true, if_false, ite_not, Bool.true_and, Bool.and_true, g1, g2]
    rw [c_lay hp hp2.2.1 hp2.1]
    obtain ⟨f1, l1, -⟩ := glay_LA (key := (R0 py)[k].1) (v := (R0 py)[k].2) h hp
    rw [va_up_self] at l1 f1
    simp (decide := true) (disch := omega) only [bq_160_335, Option.bind_some, xasI, xasL, xasR, xin_t, cond_true, cond_false, nI_clamp, k_0, k_1, k_2, k_3, k_4, k_5, k_6, k_40, k_60, k_500, k_10000, pk_mul, nI_add, nI_e0, nI_ee, nI_leI, nI_ltI, xbool0, xbool1, xbn0, xbn1, xb_0, xb_1, reduceIte, one0, Option.isNone_none, ne_eq, not_true_eq_false, not_false_eq_true, if_true, if_false, ite_not, Bool.true_and, Bool.and_true]
    obtain ⟨q', o5, o6', e, f2, l2⟩ := ih (k + 1) (by omega) _ (some (vi (zI (glay q p (((R0 py).take k).foldl putA (R0 p)).length (R0 py)[k].1 (R0 py)[k].2).1))) (by
      rw [take_s _ (by omega), List.foldl_append, List.foldl_cons, List.foldl_nil]
      rw [va_up_up] at l1
      exact l1)
    refine ⟨q', o5, o6', ?_, flat_tr f1 f2, l2⟩
    rw [va_up_self]
    exact e
def mglo (q : xrho) (x y : Nat) : Int32 := if q.1 3 y < q.1 3 x then q.1 3 y else q.1 3 x
def mghi (q : xrho) (x y : Nat) : Int32 := if q.1 4 x < q.1 4 y then q.1 4 y else q.1 4 x
def mge (q : xrho) (x y : Nat) : Int32 := (if q.1 5 x < q.1 5 y then q.1 5 y else q.1 5 x) + nI 1
def gmg0 (q : xrho) (x y h : Nat) : xrho := rup (rup (rup (rup (rup (rup (rup q 3 x (mglo q x y)) 4 x (mghi q x y)) 5 x (mge q x y)) 2 y (nI 0)) 16 (40 * h + x) (mglo q x y)) 17 (40 * h + x) (mghi q x y)) 18 (40 * h + x) (mge q x y)
def gmgq (q : xrho) (x y h : Nat) : xrho := rup (gmg0 q x y h) 15 (40 * h + y) (nI 0)
theorem c_merge_e {T0 MI B x y h : Nat} {q : xrho} {M : xM} {R : Nat → RW} {S : Nat → List Int32} {K : Nat → KW} {o5 o6 : Option xV} (h0 : LAok q R S K) (hx : x < 40) (hy : y < 40) (hne : x ≠ y) (hh : h < 6) : ∃ q', xZ T0 MI 160 183 [some (vr (some B)), some (vi (nI x)), some (vi (nI y)), some (vi (nI (40 * h + x))), some (vi (nI (40 * h + y))), o5, o6] [] (rput B q M) = some (some (vi (mge q x y)), rput B q' M) ∧ flat (gmgq q x y h) q' ∧ LAok q' (va_up R (40 * h + x) ((R (40 * h + y)).foldl putA (R (40 * h + x)))) S (joinK K (40 * h + x) (40 * h + y) 6) := by
  simp (decide := true) (disch := omega) only [rq_160_183, Option.bind_some, xasI, xasL, xasR, xin_t, cond_true, cond_false, nI_clamp, k_0, k_1, k_2, k_3, k_4, k_5, k_6, k_40, k_60, k_500, k_10000, pk_mul, nI_add, nI_e0, nI_ee, nI_leI, nI_ltI, xbool0, xbool1, xbn0, xbn1, xb_0, xb_1, reduceIte, one0, Option.isNone_none, ne_eq, not_true_eq_false, not_false_eq_true, if_true, if_false, ite_not, Bool.true_and, Bool.and_true, rup_ne, rup_at, rup_nx]
  have l0 : LAok (gmg0 q x y h) R S K := LA_c h0 (fun k hk => by rcases hk with e | e | e | e | e | e | e <;> subst e <;> rfl) rfl rfl
  obtain ⟨q1, o5', o6', e1, f1, l1⟩ := c_merge_l (T0 := T0) (MI := MI) (B := B) (p := 40 * h + x) (py := 40 * h + y) (M := M) (R0 := R) (S := S) (K := K) (x1 := nI x) (o2 := some (vi (nI y))) (by omega) (by omega) (by omega) (R (40 * h + y)).length 0 (by omega) (gmg0 q x y h) o6 (by
    rw [List.take_zero, List.foldl_nil, va_up_id]
    exact l0)
  obtain ⟨q3, e3, f3, l3⟩ := c_keepAllL (T0 := T0) (MI := MI) (B := B) (M := M) (o3 := none) (o4 := none) (o5 := none) (p := 40 * h + x) (f := 40 * h + y) l1 (by omega) (by omega) (by omega)
  have ff := flat_tr f1 f3
  refine ⟨rup q3 15 (40 * h + y) (nI 0), ?_, flat_up ff _ _ _, LA_c l3 (fun k hk => by rcases hk with e | e | e | e | e | e | e <;> subst e <;> rfl) rfl rfl⟩
  have em : (rup (rup (rup q 3 x (mglo q x y)) 4 x (mghi q x y)) 5 x (mge q x y)).1 5 x = mge q x y := rup_at _ _ _ _
  have em2 : (rup q 3 x (mglo q x y)).1 3 x = mglo q x y := rup_at _ _ _ _
  have em3 : (rup (rup q 3 x (mglo q x y)) 4 x (mghi q x y)).1 4 x = mghi q x y := rup_at _ _ _ _
  have e4 : (rup q3 15 (40 * h + y) (nI 0)).1 5 x = mge q x y := by
    show q3.1 5 x = _
    rw [ff.1 5 (by decide) (by decide) (by decide) (by decide) (by decide) (by decide) (by decide)]
    exact em
  show xZ T0 MI 160 298 [some (vr (some B)), some (vi (nI x)), some (vi (nI y)), some (vi (nI (40 * h + x))), some (vi (nI (40 * h + y))), some (vi (nI (60 * (40 * h + y) + 0))), o6] [] (rput B (gmg0 q x y h) M) = _
  rw [e1]
  simp (decide := true) (disch := omega) only [rq_160_343, Option.bind_some, xasI, xasL, xasR, xin_t, cond_true, cond_false, nI_clamp, k_0, k_1, k_2, k_3, k_4, k_5, k_6, k_40, k_60, k_500, k_10000, pk_mul, nI_add, nI_e0, nI_ee, nI_leI, nI_ltI, xbool0, xbool1, xbn0, xbn1, xb_0, xb_1, reduceIte, one0, Option.isNone_none, ne_eq, not_true_eq_false, not_false_eq_true, if_true, if_false, ite_not, Bool.true_and, Bool.and_true, e3]
  simp (decide := true) (disch := omega) only [rq_160_350, Option.bind_some, xasI, xasL, xasR, xin_t, cond_true, cond_false, nI_clamp, k_0, k_1, k_2, k_3, k_4, k_5, k_6, k_40, k_60, k_500, k_10000, pk_mul, nI_add, nI_e0, nI_ee, nI_leI, nI_ltI, xbool0, xbool1, xbn0, xbn1, xb_0, xb_1, reduceIte, one0, Option.isNone_none, ne_eq, not_true_eq_false, not_false_eq_true, if_true, if_false, ite_not, Bool.true_and, Bool.and_true, e4]
def mrgS (q : xrho) (R : Nat → RW) (S : Nat → List Int32) (K : Nat → KW) (x y a : Int32) (q' : xrho) : Prop := match grng q x with
    | none => a = Int32.ofInt (-1) ∧ q' = gref q 1
    | some r => match grng q y with
      | none => a = Int32.ofInt (-1) ∧ q' = gref q 1
      | some s => if q.1 0 0 = 0 ∨ q.1 0 (nu q 6 r) = 0 ∨ q.1 0 (nu q 6 s) = 0 then a = Int32.ofInt (-4) ∧ q' = gref q 4 else if tI (gfree q r (nu q 6 r)) = 0 ∨ tI (gfree q s (nu q 6 s)) = 0 ∨ nu q 6 r ≠ nu q 6 s ∨ (q.1 4 r ≠ q.1 3 s ∧ q.1 4 s ≠ q.1 3 r) ∨ 60 < (R (40 * nu q 6 r + r)).length + (R (40 * nu q 6 r + s)).length then a = Int32.ofInt (-5) ∧ q' = gref q 5 else a = mge q r s ∧ flat (gmgq q r s (nu q 6 r)) q' ∧ LAok q' (va_up R (40 * nu q 6 r + r) ((R (40 * nu q 6 r + s)).foldl putA (R (40 * nu q 6 r + r)))) S (joinK K (40 * nu q 6 r + r) (40 * nu q 6 r + s) 6)
theorem c_merge {T0 MI B : Nat} {q : xrho} {x y : Int32} {M : xM} {R : Nat → RW} {S : Nat → List Int32} {K : Nat → KW} {o3 o4 o5 o6 : Option xV} (h0 : LAok q R S K) (h12 : isN q 12 0 40) (hb : ∀ r, r < 40 → xbool (q.1 2 r) = true) (h6 : ∀ r, r < 40 → isN q 6 r 5) (hlt : ∀ r, r < 40 → q.1 2 r = 1 → q.1 3 r < q.1 4 r) : ∃ a q', xZ T0 MI 160 0 [some (vr (some B)), some (vi x), some (vi y), o3, o4, o5, o6] [] (rput B q M) = some (some (vi a), rput B q' M) ∧ mrgS q R S K x y a q' := by
  rw [rq_160_0, c_isRangeO h12 hb]
  cases hx : grng q x with
  | none =>
    refine ⟨Int32.ofInt (-1), gref q 1, ?_, by unfold mrgS; rw [hx]; exact ⟨rfl, rfl⟩⟩
    simp (decide := true) (disch := omega) only [bq_160_5, rq_160_16, bq_160_21, Option.bind_some, xasI, xasL, xasR, xin_t, cond_true, cond_false, nI_clamp, k_0, k_1, k_2, k_3, k_4, k_5, k_6, k_40, k_60, k_500, k_10000, pk_mul, nI_add, nI_e0, nI_ee, nI_leI, nI_ltI, xbool0, xbool1, xbn0, xbn1, xb_0, xb_1, reduceIte, one0, Option.isNone_none, ne_eq, not_true_eq_false, not_false_eq_true, if_true, if_false, ite_not, Bool.true_and, Bool.and_true, Option.isSome_none, zI_f, c_refuse (k := 1) (by decide) neg1]
  | some r =>
    obtain ⟨hrn, hr, rfl, hr1⟩ := grng_s h12 hx
    have b6 := (h6 r hr).2
    simp (decide := true) (disch := omega) only [bq_160_5, rq_160_8, Option.bind_some, xasI, xasL, xasR, xin_t, cond_true, cond_false, nI_clamp, k_0, k_1, k_2, k_3, k_4, k_5, k_6, k_40, k_60, k_500, k_10000, pk_mul, nI_add, nI_e0, nI_ee, nI_leI, nI_ltI, xbool0, xbool1, xbn0, xbn1, xb_0, xb_1, reduceIte, one0, Option.isNone_none, ne_eq, not_true_eq_false, not_false_eq_true, if_true, if_false, ite_not, Bool.true_and, Bool.and_true, Option.isSome_some, zI_t]
    rw [c_isRangeO h12 hb]
    cases hy : grng q y with
    | none =>
      refine ⟨Int32.ofInt (-1), gref q 1, ?_, by unfold mrgS; rw [hx]; dsimp only; rw [hy]; exact ⟨rfl, rfl⟩⟩
      simp (decide := true) (disch := omega) only [bq_160_13, rq_160_16, bq_160_21, Option.bind_some, xasI, xasL, xasR, xin_t, cond_true, cond_false, nI_clamp, k_0, k_1, k_2, k_3, k_4, k_5, k_6, k_40, k_60, k_500, k_10000, pk_mul, nI_add, nI_e0, nI_ee, nI_leI, nI_ltI, xbool0, xbool1, xbn0, xbn1, xb_0, xb_1, reduceIte, one0, Option.isNone_none, ne_eq, not_true_eq_false, not_false_eq_true, if_true, if_false, ite_not, Bool.true_and, Bool.and_true, Option.isSome_none, zI_f, c_refuse (k := 1) (by decide) neg1]
    | some s =>
      obtain ⟨hsn, hs, rfl, hs1⟩ := grng_s h12 hy
      have c6 := (h6 s hs).2
      simp (decide := true) (disch := omega) only [bq_160_13, rq_160_22, Option.bind_some, xasI, xasL, xasR, xin_t, cond_true, cond_false, nI_clamp, k_0, k_1, k_2, k_3, k_4, k_5, k_6, k_40, k_60, k_500, k_10000, pk_mul, nI_add, nI_e0, nI_ee, nI_leI, nI_ltI, xbool0, xbool1, xbn0, xbn1, xb_0, xb_1, reduceIte, one0, Option.isNone_none, ne_eq, not_true_eq_false, not_false_eq_true, if_true, if_false, ite_not, Bool.true_and, Bool.and_true, Option.isSome_some, zI_t]
      have un : ∀ a q', mrgS q R S K (nI r) (nI s) a q' = (if q.1 0 0 = 0 ∨ q.1 0 (nu q 6 r) = 0 ∨ q.1 0 (nu q 6 s) = 0 then a = Int32.ofInt (-4) ∧ q' = gref q 4 else if tI (gfree q r (nu q 6 r)) = 0 ∨ tI (gfree q s (nu q 6 s)) = 0 ∨ nu q 6 r ≠ nu q 6 s ∨ (q.1 4 r ≠ q.1 3 s ∧ q.1 4 s ≠ q.1 3 r) ∨ 60 < (R (40 * nu q 6 r + r)).length + (R (40 * nu q 6 r + s)).length then a = Int32.ofInt (-5) ∧ q' = gref q 5 else a = mge q r s ∧ flat (gmgq q r s (nu q 6 r)) q' ∧ LAok q' (va_up R (40 * nu q 6 r + r) ((R (40 * nu q 6 r + s)).foldl putA (R (40 * nu q 6 r + r)))) S (joinK K (40 * nu q 6 r + r) (40 * nu q 6 r + s) 6)) := by
        intro a q'
        unfold mrgS
        rw [hx]
        dsimp only
        rw [hy]
      have ref4 : ∀ o3 o4 o5 o6 : Option xV, xZ T0 MI 160 59 [some (vr (some B)), some (vi (nI r)), some (vi (nI s)), o3, o4, o5, o6] [] (rput B q M) = some (some (vi (Int32.ofInt (-4))), rput B (gref q 4) M) := by
        intro o3 o4 o5 o6
        simp (decide := true) (disch := omega) only [rq_160_59, bq_160_65, Option.bind_some, xasI, xasL, xasR, xin_t, cond_true, cond_false, nI_clamp, k_0, k_1, k_2, k_3, k_4, k_5, k_6, k_40, k_60, k_500, k_10000, pk_mul, nI_add, nI_e0, nI_ee, nI_leI, nI_ltI, xbool0, xbool1, xbn0, xbn1, xb_0, xb_1, reduceIte, one0, Option.isNone_none, ne_eq, not_true_eq_false, not_false_eq_true, if_true, if_false, ite_not, Bool.true_and, Bool.and_true, c_refuse (k := 4) (by decide) neg4]
      have ref5 : ∀ o3 o4 o5 o6 : Option xV, xZ T0 MI 160 127 [some (vr (some B)), some (vi (nI r)), some (vi (nI s)), o3, o4, o5, o6] [] (rput B q M) = some (some (vi (Int32.ofInt (-5))), rput B (gref q 5) M) := by
        intro o3 o4 o5 o6
        simp (decide := true) (disch := omega) only [rq_160_127, bq_160_133, Option.bind_some, xasI, xasL, xasR, xin_t, cond_true, cond_false, nI_clamp, k_0, k_1, k_2, k_3, k_4, k_5, k_6, k_40, k_60, k_500, k_10000, pk_mul, nI_add, nI_e0, nI_ee, nI_leI, nI_ltI, xbool0, xbool1, xbn0, xbn1, xb_0, xb_1, reduceIte, one0, Option.isNone_none, ne_eq, not_true_eq_false, not_false_eq_true, if_true, if_false, ite_not, Bool.true_and, Bool.and_true, c_refuse (k := 5) (by decide) neg5]
      by_cases a1 : q.1 0 0 = 0
      · refine ⟨Int32.ofInt (-4), gref q 4, ?_, by rw [un, if_pos (Or.inl a1)]; exact ⟨rfl, rfl⟩⟩
        rw [if_pos a1]
        exact ref4 _ _ _ _
      rw [if_neg a1]
      simp (decide := true) (disch := omega) only [rq_160_31, Option.bind_some, xasI, xasL, xasR, xin_t, cond_true, cond_false, nI_clamp, k_0, k_1, k_2, k_3, k_4, k_5, k_6, k_40, k_60, k_500, k_10000, pk_mul, nI_add, nI_e0, nI_ee, nI_leI, nI_ltI, xbool0, xbool1, xbn0, xbn1, xb_0, xb_1, reduceIte, one0, Option.isNone_none, ne_eq, not_true_eq_false, not_false_eq_true, if_true, if_false, ite_not, Bool.true_and, Bool.and_true, (h6 r hr).1]
      by_cases a2 : q.1 0 (nu q 6 r) = 0
      · refine ⟨Int32.ofInt (-4), gref q 4, ?_, by rw [un, if_pos (Or.inr (Or.inl a2))]; exact ⟨rfl, rfl⟩⟩
        rw [if_pos a2]
        exact ref4 _ _ _ _
      rw [if_neg a2]
      simp (decide := true) (disch := omega) only [rq_160_45, Option.bind_some, xasI, xasL, xasR, xin_t, cond_true, cond_false, nI_clamp, k_0, k_1, k_2, k_3, k_4, k_5, k_6, k_40, k_60, k_500, k_10000, pk_mul, nI_add, nI_e0, nI_ee, nI_leI, nI_ltI, xbool0, xbool1, xbn0, xbn1, xb_0, xb_1, reduceIte, one0, Option.isNone_none, ne_eq, not_true_eq_false, not_false_eq_true, if_true, if_false, ite_not, Bool.true_and, Bool.and_true, (h6 s hs).1]
      by_cases a3 : q.1 0 (nu q 6 s) = 0
      · refine ⟨Int32.ofInt (-4), gref q 4, ?_, by rw [un, if_pos (Or.inr (Or.inr a3))]; exact ⟨rfl, rfl⟩⟩
        rw [if_pos a3]
        exact ref4 _ _ _ _
      have n1 : ¬ (q.1 0 0 = 0 ∨ q.1 0 (nu q 6 r) = 0 ∨ q.1 0 (nu q 6 s) = 0) := fun e => e.elim a1 (fun e => e.elim a2 a3)
      rw [if_neg a3, rq_160_66, c_isFreeT hr (by omega) (h6 r hr).1]
      by_cases f1 : gfree q r (nu q 6 r)
      case neg =>
        refine ⟨Int32.ofInt (-5), gref q 5, ?_, by rw [un, if_neg n1, tI_f f1, if_pos (Or.inl rfl)]; exact ⟨rfl, rfl⟩⟩
        rw [tI_f f1]
        simp (decide := true) (disch := omega) only [bq_160_71, Option.bind_some, xasI, xasL, xasR, xin_t, cond_true, cond_false, nI_clamp, k_0, k_1, k_2, k_3, k_4, k_5, k_6, k_40, k_60, k_500, k_10000, pk_mul, nI_add, nI_e0, nI_ee, nI_leI, nI_ltI, xbool0, xbool1, xbn0, xbn1, xb_0, xb_1, reduceIte, one0, Option.isNone_none, ne_eq, not_true_eq_false, not_false_eq_true, if_true, if_false, ite_not, Bool.true_and, Bool.and_true, ref5]
      rw [tI_t f1]
      simp (decide := true) (disch := omega) only [bq_160_71, rq_160_74, Option.bind_some, xasI, xasL, xasR, xin_t, cond_true, cond_false, nI_clamp, k_0, k_1, k_2, k_3, k_4, k_5, k_6, k_40, k_60, k_500, k_10000, pk_mul, nI_add, nI_e0, nI_ee, nI_leI, nI_ltI, xbool0, xbool1, xbn0, xbn1, xb_0, xb_1, reduceIte, one0, Option.isNone_none, ne_eq, not_true_eq_false, not_false_eq_true, if_true, if_false, ite_not, Bool.true_and, Bool.and_true]
      rw [c_isFreeT hs (by omega) (h6 s hs).1]
      by_cases f2 : gfree q s (nu q 6 s)
      case neg =>
        refine ⟨Int32.ofInt (-5), gref q 5, ?_, by rw [un, if_neg n1, tI_f f2, if_pos (Or.inr (Or.inl rfl))]; exact ⟨rfl, rfl⟩⟩
        rw [tI_f f2]
        simp (decide := true) (disch := omega) only [bq_160_79, Option.bind_some, xasI, xasL, xasR, xin_t, cond_true, cond_false, nI_clamp, k_0, k_1, k_2, k_3, k_4, k_5, k_6, k_40, k_60, k_500, k_10000, pk_mul, nI_add, nI_e0, nI_ee, nI_leI, nI_ltI, xbool0, xbool1, xbn0, xbn1, xb_0, xb_1, reduceIte, one0, Option.isNone_none, ne_eq, not_true_eq_false, not_false_eq_true, if_true, if_false, ite_not, Bool.true_and, Bool.and_true, ref5]
      rw [tI_t f2]
      simp (decide := true) (disch := omega) only [bq_160_79, rq_160_82, Option.bind_some, xasI, xasL, xasR, xin_t, cond_true, cond_false, nI_clamp, k_0, k_1, k_2, k_3, k_4, k_5, k_6, k_40, k_60, k_500, k_10000, pk_mul, nI_add, nI_e0, nI_ee, nI_leI, nI_ltI, xbool0, xbool1, xbn0, xbn1, xb_0, xb_1, reduceIte, one0, Option.isNone_none, ne_eq, not_true_eq_false, not_false_eq_true, if_true, if_false, ite_not, Bool.true_and, Bool.and_true, (h6 r hr).1, (h6 s hs).1]
      by_cases a4 : nu q 6 r = nu q 6 s
      case neg =>
        refine ⟨Int32.ofInt (-5), gref q 5, ?_, by rw [un, if_neg n1, if_pos (Or.inr (Or.inr (Or.inl a4)))]; exact ⟨rfl, rfl⟩⟩
        rw [if_neg a4]
        exact ref5 _ _ _ _
      rw [if_pos a4]
      by_cases a5 : q.1 4 r ≠ q.1 3 s ∧ q.1 4 s ≠ q.1 3 r
      · refine ⟨Int32.ofInt (-5), gref q 5, ?_, by rw [un, if_neg n1, if_pos (Or.inr (Or.inr (Or.inr (Or.inl a5))))]; exact ⟨rfl, rfl⟩⟩
        simp (decide := true) (disch := omega) only [rq_160_97, Option.bind_some, xasI, xasL, xasR, xin_t, cond_true, cond_false, nI_clamp, k_0, k_1, k_2, k_3, k_4, k_5, k_6, k_40, k_60, k_500, k_10000, pk_mul, nI_add, nI_e0, nI_ee, nI_leI, nI_ltI, xbool0, xbool1, xbn0, xbn1, xb_0, xb_1, reduceIte, one0, Option.isNone_none, ne_eq, not_true_eq_false, not_false_eq_true, if_true, if_false, ite_not, Bool.true_and, Bool.and_true]
        rw [if_neg a5.1]
        simp (decide := true) (disch := omega) only [rq_160_112, Option.bind_some, xasI, xasL, xasR, xin_t, cond_true, cond_false, nI_clamp, k_0, k_1, k_2, k_3, k_4, k_5, k_6, k_40, k_60, k_500, k_10000, pk_mul, nI_add, nI_e0, nI_ee, nI_leI, nI_ltI, xbool0, xbool1, xbn0, xbn1, xb_0, xb_1, reduceIte, one0, Option.isNone_none, ne_eq, not_true_eq_false, not_false_eq_true, if_true, if_false, ite_not, Bool.true_and, Bool.and_true]
        rw [if_neg a5.2]
        exact ref5 _ _ _ _
      have hne : r ≠ s := by
        intro e
        subst e
        refine a5 ⟨fun e => ?_, fun e => ?_⟩ <;>
        · have := hlt r hr hr1
          rw [e] at this
          exact i_irr this
      have go : ∀ o3 o4 o5 o6 : Option xV, xZ T0 MI 160 97 [some (vr (some B)), some (vi (nI r)), some (vi (nI s)), o3, o4, o5, o6] [] (rput B q M) = xZ T0 MI 160 134 [some (vr (some B)), some (vi (nI r)), some (vi (nI s)), o3, o4, o5, o6] [] (rput B q M) := by
        intro o3 o4 o5 o6
        simp (decide := true) (disch := omega) only [rq_160_97, Option.bind_some, xasI, xasL, xasR, xin_t, cond_true, cond_false, nI_clamp, k_0, k_1, k_2, k_3, k_4, k_5, k_6, k_40, k_60, k_500, k_10000, pk_mul, nI_add, nI_e0, nI_ee, nI_leI, nI_ltI, xbool0, xbool1, xbn0, xbn1, xb_0, xb_1, reduceIte, one0, Option.isNone_none, ne_eq, not_true_eq_false, not_false_eq_true, if_true, if_false, ite_not, Bool.true_and, Bool.and_true]
        by_cases a6 : q.1 4 r = q.1 3 s
        · rw [if_pos a6]
        · rw [if_neg a6]
          simp (decide := true) (disch := omega) only [rq_160_112, Option.bind_some, xasI, xasL, xasR, xin_t, cond_true, cond_false, nI_clamp, k_0, k_1, k_2, k_3, k_4, k_5, k_6, k_40, k_60, k_500, k_10000, pk_mul, nI_add, nI_e0, nI_ee, nI_leI, nI_ltI, xbool0, xbool1, xbn0, xbn1, xb_0, xb_1, reduceIte, one0, Option.isNone_none, ne_eq, not_true_eq_false, not_false_eq_true, if_true, if_false, ite_not, Bool.true_and, Bool.and_true]
          by_cases a7 : q.1 4 s = q.1 3 r
          · rw [if_pos a7]
          · exact absurd ⟨a6, a7⟩ a5
      rw [go]
      have hP := h0.1 (40 * nu q 6 r + r) (by omega)
      have hQ := h0.1 (40 * nu q 6 r + s) (by omega)
      have bP := hP.2.1
      have bQ := hQ.2.1
      simp (decide := true) (disch := omega) only [rq_160_134, Option.bind_some, xasI, xasL, xasR, xin_t, cond_true, cond_false, nI_clamp, k_0, k_1, k_2, k_3, k_4, k_5, k_6, k_40, k_60, k_500, k_10000, pk_mul, nI_add, nI_e0, nI_ee, nI_leI, nI_ltI, xbool0, xbool1, xbn0, xbn1, xb_0, xb_1, reduceIte, one0, Option.isNone_none, ne_eq, not_true_eq_false, not_false_eq_true, if_true, if_false, ite_not, Bool.true_and, Bool.and_true, (h6 r hr).1, c_spot]
      simp (decide := true) (disch := omega) only [rq_160_144, Option.bind_some, xasI, xasL, xasR, xin_t, cond_true, cond_false, nI_clamp, k_0, k_1, k_2, k_3, k_4, k_5, k_6, k_40, k_60, k_500, k_10000, pk_mul, nI_add, nI_e0, nI_ee, nI_leI, nI_ltI, xbool0, xbool1, xbn0, xbn1, xb_0, xb_1, reduceIte, one0, Option.isNone_none, ne_eq, not_true_eq_false, not_false_eq_true, if_true, if_false, ite_not, Bool.true_and, Bool.and_true, (h6 s hs).1, c_spot]
      rw [← a4]
      simp (decide := true) (disch := omega) only [rq_160_155, Option.bind_some, xasI, xasL, xasR, xin_t, cond_true, cond_false, nI_clamp, k_0, k_1, k_2, k_3, k_4, k_5, k_6, k_40, k_60, k_500, k_10000, pk_mul, nI_add, nI_e0, nI_ee, nI_leI, nI_ltI, xbool0, xbool1, xbn0, xbn1, xb_0, xb_1, reduceIte, one0, Option.isNone_none, ne_eq, not_true_eq_false, not_false_eq_true, if_true, if_false, ite_not, Bool.true_and, Bool.and_true, hP.1, hQ.1]
      by_cases a6 : (R (40 * nu q 6 r + r)).length + (R (40 * nu q 6 r + s)).length ≤ 60
      · rw [if_pos a6]
        obtain ⟨q', e, ff, l⟩ := c_merge_e (T0 := T0) (MI := MI) (B := B) (M := M) (x := r) (y := s) (h := nu q 6 r) (o5 := o5) (o6 := o6) h0 hr hs hne (by omega)
        refine ⟨_, q', e, ?_⟩
        rw [un, if_neg n1, if_neg (fun e => by
          rcases e with e | e | e | e | e
          · rw [tI_t f1] at e; exact absurd e (by decide)
          · rw [tI_t f2] at e; exact absurd e (by decide)
          · exact e a4
          · exact a5 e
          · omega)]
        exact ⟨rfl, ff, l⟩
      · refine ⟨Int32.ofInt (-5), gref q 5, ?_, by rw [un, if_neg n1, if_pos (Or.inr (Or.inr (Or.inr (Or.inr (by omega)))))]; exact ⟨rfl, rfl⟩⟩
        rw [if_neg a6]
        simp (decide := true) (disch := omega) only [rq_160_176, bq_160_182, Option.bind_some, xasI, xasL, xasR, xin_t, cond_true, cond_false, nI_clamp, k_0, k_1, k_2, k_3, k_4, k_5, k_6, k_40, k_60, k_500, k_10000, pk_mul, nI_add, nI_e0, nI_ee, nI_leI, nI_ltI, xbool0, xbool1, xbn0, xbn1, xb_0, xb_1, reduceIte, one0, Option.isNone_none, ne_eq, not_true_eq_false, not_false_eq_true, if_true, if_false, ite_not, Bool.true_and, Bool.and_true, c_refuse (k := 5) (by decide) neg5]
