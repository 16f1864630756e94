/-! THE REFERENCE'S gives, closes, step -/
abbrev xLs : Type := (Nat → RW) × (Nat → List Int32) × (Nat → KW) × (Nat → KW)
def LX (q : xrho) (L : xLs) : Prop := LXok q L.1 L.2.1 L.2.2.1 L.2.2.2
theorem LX_f {q q' : xrho} {L : xLs} (h : LX q L) (h1 : ∀ k, nf1 k = true → q'.1 k = q.1 k) (h2 : ∀ k, nf2 k = true → q'.2 k = q.2 k) : LX q' L := LX_c h h1 h2
/-- what a host gives of a range in a step -/
def agv (q : xrho) (L : xLs) (h r : Nat) : xrho × xLs :=
  if q.1 15 (40 * h + r) = nI 2 then
    if q.1 32 (40 * h + r) = 0 then (gga q h r (nu q 82 0) (nu q 29 (40 * h + r)), L.1, L.2.1, L.2.2.1, cpZ L.2.2.2 (nu q 82 0) (fun c => L.2.2.2 (6 * nu q 29 (40 * h + r) + c)) 6)
    else if (L.2.1 (40 * h + r)).length = 0 then (gends (rup q 15 (40 * h + r) (nI 3)) h r (nu q 82 0), L.1, L.2.1, L.2.2.1, cpZ L.2.2.2 (nu q 82 0) (fun c => L.2.2.1 (6 * (40 * h + r) + c)) 6)
    else (ggv q h r (nu q 82 0) (gvA (L.1 (40 * h + r)) (L.2.1 (40 * h + r))), L.1, va_up L.2.1 (40 * h + r) (rstS ((gvA (L.1 (40 * h + r)) (L.2.1 (40 * h + r))).map Prod.fst) (L.2.1 (40 * h + r))), L.2.2.1, L.2.2.2)
  else if q.1 15 (40 * h + r) = nI 3 then
    if q.1 33 (40 * h + r) = 0 then (gga q h r (nu q 82 0) (nu q 29 (40 * h + r)), L.1, L.2.1, L.2.2.1, cpZ L.2.2.2 (nu q 82 0) (fun c => L.2.2.2 (6 * nu q 29 (40 * h + r) + c)) 6)
    else (gnew q (nu q 82 0) (nI 6) (nI 0) (nI h) (nI r) (q.1 18 (40 * h + r) + nI 1), L)
  else (q, L)
/-- a letter that goes again was one -/
def okG (q : xrho) : Prop := isN q 82 0 1200 ∧ (∀ x, x < 3600 → xbool (q.1 76 x) = true) ∧ ∀ p, p < 240 → (q.1 15 p = nI 2 ∧ q.1 32 p = 0) ∨ (q.1 15 p = nI 3 ∧ q.1 33 p = 0) → isN q 29 p 1199 ∧ nu q 29 p < nu q 82 0
theorem c_gives {T0 MI B h r : Nat} {q : xrho} {M : xM} {L : xLs} {o3 o4 o5 o6 o7 o8 o9 : Option xV} (h0 : LX q L) (hG : okG q) (hh : h < 6) (hr : r < 40) (hl : nu q 82 0 < 1200) (h15 : q.1 15 (40 * h + r) = nI 2) : ∃ q', xZ T0 MI 166 0 [some (vr (some B)), some (vi (nI h)), some (vi (nI r)), o3, o4, o5, o6, o7, o8, o9] [] (rput B q M) = some (none, rput B q' M) ∧ fl2 (agv q L h r).1 q' ∧ LX q' (agv q L h r).2 := by
  unfold agv
  rw [if_pos h15, bq_166_0, c_spot]
  simp (decide := true) (disch := omega) only [rq_166_5, Option.bind_some, xasI, xasL, xasR, xin_t, cond_true, cond_false, nI_clamp, k_0, k_1, k_2, k_3, k_4, k_5, k_6, k_40, k_60, k_500, k_10000, pk_mul, nI_add, nI_e0, nI_ee, nI_leI, nI_ltI, xbool0, xbool1, xbn0, xbn1, xb_0, xb_1, reduceIte, one0, Option.isNone_none, ne_eq, not_true_eq_false, not_false_eq_true, if_true, if_false, ite_not, Bool.true_and, Bool.and_true]
  by_cases h1 : q.1 32 (40 * h + r) = 0
  · rw [if_pos h1, if_pos h1]
    obtain ⟨hw1, hw2⟩ := hG.2.2 (40 * h + r) (by omega) (Or.inl ⟨h15, h1⟩)
    obtain ⟨q', e, f, l⟩ := c_goesAgain (T0 := T0) (MI := MI) (B := B) (M := M) (o3 := none) (o4 := none) (o5 := none) (o6 := none) h0 hh hr hl hG.1.1 hw1.1 hw2 hG.2.1
    refine ⟨q', ?_, f, l⟩
    simp (decide := true) (disch := omega) only [rq_166_15, bq_166_21, Option.bind_some, xasI, xasL, xasR, xin_t, cond_true, cond_false, nI_clamp, k_0, k_1, k_2, k_3, k_4, k_5, k_6, k_40, k_60, k_500, k_10000, pk_mul, nI_add, nI_e0, nI_ee, nI_leI, nI_ltI, xbool0, xbool1, xbn0, xbn1, xb_0, xb_1, reduceIte, one0, Option.isNone_none, ne_eq, not_true_eq_false, not_false_eq_true, if_true, if_false, ite_not, Bool.true_and, Bool.and_true, e]
  · rw [if_neg h1, if_neg h1]
    have hS := h0.1.2.1 (40 * h + r) (by omega)
    have bS := hS.2.1
    simp (decide := true) (disch := omega) only [rq_166_22, Option.bind_some, xasI, xasL, xasR, xin_t, cond_true, cond_false, nI_clamp, k_0, k_1, k_2, k_3, k_4, k_5, k_6, k_40, k_60, k_500, k_10000, pk_mul, nI_add, nI_e0, nI_ee, nI_leI, nI_ltI, xbool0, xbool1, xbn0, xbn1, xb_0, xb_1, reduceIte, one0, Option.isNone_none, ne_eq, not_true_eq_false, not_false_eq_true, if_true, if_false, ite_not, Bool.true_and, Bool.and_true, hS.1]
    by_cases h2 : (L.2.1 (40 * h + r)).length = 0
    · rw [if_pos h2, if_pos h2]
      obtain ⟨q', e, f, l⟩ := c_ends (T0 := T0) (MI := MI) (B := B) (M := M) (o3 := none) (o4 := none) (o5 := none) (o6 := none) (o7 := none) (o8 := none) (q := rup q 15 (40 * h + r) (nI 3)) (LX_up rfl h0) hh hr hl hG.1.1
      refine ⟨q', ?_, f, l⟩
      simp (decide := true) (disch := omega) only [rq_166_31, bq_166_44, Option.bind_some, xasI, xasL, xasR, xin_t, cond_true, cond_false, nI_clamp, k_0, k_1, k_2, k_3, k_4, k_5, k_6, k_40, k_60, k_500, k_10000, pk_mul, nI_add, nI_e0, nI_ee, nI_leI, nI_ltI, xbool0, xbool1, xbn0, xbn1, xb_0, xb_1, reduceIte, one0, Option.isNone_none, ne_eq, not_true_eq_false, not_false_eq_true, if_true, if_false, ite_not, Bool.true_and, Bool.and_true, e]
    · rw [if_neg h2, if_neg h2]
      obtain ⟨q', e, f, l⟩ := c_gives_e (T0 := T0) (MI := MI) (B := B) (M := M) (o4 := o4) (o5 := o5) (o6 := o6) (o7 := o7) (o8 := o8) (o9 := o9) h0 hh hr hl hG.1.1
      exact ⟨q', e, f, l⟩
theorem c_closes {T0 MI B h r : Nat} {q : xrho} {M : xM} {L : xLs} {o3 o4 : Option xV} (h0 : LX q L) (hG : okG q) (hh : h < 6) (hr : r < 40) (hl : nu q 82 0 < 1200) (h15 : q.1 15 (40 * h + r) = nI 3) : ∃ q', xZ T0 MI 168 0 [some (vr (some B)), some (vi (nI h)), some (vi (nI r)), o3, o4] [] (rput B q M) = some (none, rput B q' M) ∧ fl2 (agv q L h r).1 q' ∧ LX q' (agv q L h r).2 := by
  unfold agv
  rw [if_neg (by rw [h15]; decide), if_pos h15, bq_168_0, c_spot]
  simp (decide := true) (disch := omega) only [rq_168_5, Option.bind_some, xasI, xasL, xasR, xin_t, cond_true, cond_false, nI_clamp, k_0, k_1, k_2, k_3, k_4, k_5, k_6, k_40, k_60, k_500, k_10000, pk_mul, nI_add, nI_e0, nI_ee, nI_leI, nI_ltI, xbool0, xbool1, xbn0, xbn1, xb_0, xb_1, reduceIte, one0, Option.isNone_none, ne_eq, not_true_eq_false, not_false_eq_true, if_true, if_false, ite_not, Bool.true_and, Bool.and_true]
  by_cases h1 : q.1 33 (40 * h + r) = 0
  · rw [if_pos h1, if_pos h1]
    obtain ⟨hw1, hw2⟩ := hG.2.2 (40 * h + r) (by omega) (Or.inr ⟨h15, h1⟩)
    obtain ⟨q', e, f, l⟩ := c_goesAgain (T0 := T0) (MI := MI) (B := B) (M := M) (o3 := none) (o4 := none) (o5 := none) (o6 := none) h0 hh hr hl hG.1.1 hw1.1 hw2 hG.2.1
    refine ⟨q', ?_, f, l⟩
    simp (decide := true) (disch := omega) only [rq_168_15, bq_168_21, bq_168_43, Option.bind_some, xasI, xasL, xasR, xin_t, cond_true, cond_false, nI_clamp, k_0, k_1, k_2, k_3, k_4, k_5, k_6, k_40, k_60, k_500, k_10000, pk_mul, nI_add, nI_e0, nI_ee, nI_leI, nI_ltI, xbool0, xbool1, xbn0, xbn1, xb_0, xb_1, reduceIte, one0, Option.isNone_none, ne_eq, not_true_eq_false, not_false_eq_true, if_true, if_false, ite_not, Bool.true_and, Bool.and_true, e]
  · rw [if_neg h1, if_neg h1]
    refine ⟨_, ?_, fl2_rf _, gnew_LX h0⟩
    simp (decide := true) (disch := omega) only [rq_168_24, Option.bind_some, xasI, xasL, xasR, xin_t, cond_true, cond_false, nI_clamp, k_0, k_1, k_2, k_3, k_4, k_5, k_6, k_40, k_60, k_500, k_10000, pk_mul, nI_add, nI_e0, nI_ee, nI_leI, nI_ltI, xbool0, xbool1, xbn0, xbn1, xb_0, xb_1, reduceIte, one0, Option.isNone_none, ne_eq, not_true_eq_false, not_false_eq_true, if_true, if_false, ite_not, Bool.true_and, Bool.and_true]
    rw [c_newLetter hl hG.1.1]
    simp (decide := true) (disch := omega) only [bq_168_41, bq_168_43, Option.bind_some, xasI, xasL, xasR, xin_t, cond_true, cond_false, nI_clamp, k_0, k_1, k_2, k_3, k_4, k_5, k_6, k_40, k_60, k_500, k_10000, pk_mul, nI_add, nI_e0, nI_ee, nI_leI, nI_ltI, xbool0, xbool1, xbn0, xbn1, xb_0, xb_1, reduceIte, one0, Option.isNone_none, ne_eq, not_true_eq_false, not_false_eq_true, if_true, if_false, ite_not, Bool.true_and, Bool.and_true]
def agvs (h : Nat) : Nat → Nat → xrho → xLs → xrho × xLs
  | _, 0, q, L => (q, L)
  | r, m + 1, q, L => agvs h (r + 1) m (agv q L h r).1 (agv q L h r).2
/-! agv sees only what is exact -/
theorem nu_f {q z : xrho} (h : fl2 z q) {k i : Nat} (hk : nf1 k = false) : nu q k i = nu z k i := by
  unfold nu
  rw [h.1 k hk]
theorem fl2_new {q z : xrho} (h : fl2 z q) (l : Nat) (a b c d e : Int32) : fl2 (gnew z l a b c d e) (gnew q l a b c d e) := by
  unfold gnew
  repeat (first | exact h | refine fl2_up ?_ _ _ _)
theorem fl2_part {q z : xrho} (h0 : fl2 z q) (h r l : Nat) : fl2 (gpart z h r l) (gpart q h r l) := by
  unfold gpart
  rw [h0.1 21 rfl, h0.1 18 rfl, h0.1 22 rfl, h0.1 23 rfl, h0.1 16 rfl, h0.1 17 rfl]
  exact fl2_up (fl2_up (fl2_up (fl2_up (fl2_new h0 _ _ _ _ _ _) _ _ _) _ _ _) _ _ _) _ _ _
theorem fl2_ck3 {q z : xrho} (h0 : fl2 z q) (g1 g2 : Nat → Int32) (g3 : Nat → Int64) (a b k : Nat) : fl2 (ck3 74 76 77 z g1 g2 g3 a b k) (ck3 74 76 77 q g1 g2 g3 a b k) := by
  refine ⟨fun f hf => ?_, fun f hf => ?_⟩
  · rw [ck3_1, ck3_1, h0.1 76 rfl, h0.1 74 rfl, h0.1 f hf]
  · rw [ck3_2, ck3_2, h0.2 77 rfl, h0.2 f hf]
theorem fl2_gga {q z : xrho} (h0 : fl2 z q) (h r l was : Nat) : fl2 (gga z h r l was) (gga q h r l was) := by
  unfold gga
  rw [h0.1 69 rfl, h0.1 74 rfl, h0.1 76 rfl, h0.2 77 rfl]
  exact fl2_ck3 (fl2_up (fl2_part h0 _ _ _) _ _ _) _ _ _ _ _ _
theorem fl2_gends {q z : xrho} (h0 : fl2 z q) (h r l : Nat) : fl2 (gends z h r l) (gends q h r l) := by
  unfold gends
  exact fl2_up (fl2_up (fl2_up (fl2_up (fl2_part h0 _ _ _) _ _ _) _ _ _) _ _ _) _ _ _
theorem fl2_wrP {q z : xrho} (h0 : fl2 z q) (l : Nat) (acc : PW) : fl2 (wrP z l acc) (wrP q l acc) := by
  refine ⟨fun f hf => ?_, fun f hf => ?_⟩
  · rw [wrP_1, wrP_1, h0.1 76 rfl, h0.1 74 rfl, h0.1 f hf]
  · rw [wrP_2, wrP_2, h0.2 77 rfl, h0.2 f hf]
theorem fl2_ggv {q z : xrho} (h0 : fl2 z q) (h r l : Nat) (acc : PW) : fl2 (ggv z h r l acc) (ggv q h r l acc) := by
  unfold ggv
  exact fl2_up (fl2_up (fl2_up (fl2_up (fl2_wrP (fl2_part h0 _ _ _) _ _) _ _ _) _ _ _) _ _ _) _ _ _
theorem agv_c {q z : xrho} (h0 : fl2 z q) (L : xLs) (h r : Nat) : fl2 (agv z L h r).1 (agv q L h r).1 ∧ (agv q L h r).2 = (agv z L h r).2 := by
  unfold agv
  rw [h0.1 15 rfl, h0.1 32 rfl, h0.1 33 rfl, h0.1 18 rfl, nu_f h0 (k := 82) rfl, nu_f h0 (k := 29) rfl]
  split
  · split
    · exact ⟨fl2_gga h0 _ _ _ _, rfl⟩
    · split
      · exact ⟨fl2_gends (fl2_up h0 _ _ _) _ _ _, rfl⟩
      · exact ⟨fl2_ggv h0 _ _ _ _, rfl⟩
  · split
    · split
      · exact ⟨fl2_gga h0 _ _ _ _, rfl⟩
      · exact ⟨fl2_new h0 _ _ _ _ _ _, rfl⟩
    · exact ⟨h0, rfl⟩
theorem okG_f {q z : xrho} (h0 : fl2 z q) (h : okG z) : okG q := by
  unfold okG isN nu at h ⊢
  rw [h0.1 82 rfl, h0.1 76 rfl, h0.1 15 rfl, h0.1 32 rfl, h0.1 33 rfl, h0.1 29 rfl]
  exact h
theorem c_stepC {T0 MI B h n : Nat} {M : xM} {x2 : Int32} (hh : h < 6) (hn : n ≤ 40) : ∀ m r, r + m = n → ∀ (q z : xrho) (L : xLs) (o4 : Option xV), fl2 z q → LX q L → z.1 12 0 = nI n → (∀ j, j ≤ m → okG (agvs h r j z L).1 ∧ (agvs h r j z L).1.1 12 0 = nI n) → (∀ j, j < m → nu (agvs h r j z L).1 82 0 < 1200 ∨ (z.1 15 (40 * h + (r + j)) ≠ nI 2 ∧ z.1 15 (40 * h + (r + j)) ≠ nI 3)) → (∀ j i, j ≤ m → r + j ≤ i → (agvs h r j z L).1.1 15 (40 * h + i) = z.1 15 (40 * h + i)) → ∃ q', xZ T0 MI 161 256 [some (vr (some B)), some (vi (nI h)), some (vi x2), some (vi (nI r)), o4] [] (rput B q M) = some (some (vi x2), rput B q' M) ∧ fl2 (agvs h r m z L).1 q' ∧ LX q' (agvs h r m z L).2 := by
  intro m
  induction m with
  | zero =>
    intro r hr q z L o4 f0 l0 h12 hG hl h15
    refine ⟨q, ?_, f0, l0⟩
    have e12 : q.1 12 0 = nI n := (congrFun (f0.1 12 rfl) 0).trans h12
    simp (decide := true) (disch := omega) only [rq_161_256, Option.bind_some, xasI, xasL, xasR, xin_t, cond_true, cond_false, nI_clamp, k_0, k_1, k_2, k_3, k_4, k_5, k_6, k_40, k_60, k_500, k_10000, pk_mul, nI_add, nI_e0, nI_ee, nI_leI, nI_ltI, xbool0, xbool1, xbn0, xbn1, xb_0, xb_1, reduceIte, one0, Option.isNone_none, ne_eq, not_true_eq_false, not_false_eq_true, if_true, if_false, ite_not, Bool.true_and, Bool.and_true, e12]
    rw [if_pos (by omega), bq_161_313]
  | succ m ih =>
    intro r hr q z L o4 f0 l0 h12 hG hl h15
    have e12 : q.1 12 0 = nI n := (congrFun (f0.1 12 rfl) 0).trans h12
    have e15 : q.1 15 (40 * h + r) = z.1 15 (40 * h + r) := by rw [f0.1 15 rfl]
    have hGq : okG q := okG_f f0 (hG 0 (by omega)).1
    have e82 : nu q 82 0 = nu z 82 0 := nu_f f0 rfl
    have key : ∃ q', xZ T0 MI 161 256 [some (vr (some B)), some (vi (nI h)), some (vi x2), some (vi (nI r)), o4] [] (rput B q M) = xZ T0 MI 161 256 [some (vr (some B)), some (vi (nI h)), some (vi x2), some (vi (nI (r + 1))), o4] [] (rput B q' M) ∧ fl2 (agv q L h r).1 q' ∧ LX q' (agv q L h r).2 := by
      have st : xZ T0 MI 161 256 [some (vr (some B)), some (vi (nI h)), some (vi x2), some (vi (nI r)), o4] [] (rput B q M) = if q.1 15 (40 * h + r) = nI 2 then xZ T0 MI 161 278 [some (vr (some B)), some (vi (nI h)), some (vi x2), some (vi (nI r)), o4] [] (rput B q M) else xZ T0 MI 161 287 [some (vr (some B)), some (vi (nI h)), some (vi x2), some (vi (nI r)), o4] [] (rput B q M) := by
        simp (decide := true) (disch := omega) only [rq_161_256, Option.bind_some, xasI, xasL, xasR, xin_t, cond_true, cond_false, nI_clamp, k_0, k_1, k_2, k_3, k_4, k_5, k_6, k_40, k_60, k_500, k_10000, pk_mul, nI_add, nI_e0, nI_ee, nI_leI, nI_ltI, xbool0, xbool1, xbn0, xbn1, xb_0, xb_1, reduceIte, one0, Option.isNone_none, ne_eq, not_true_eq_false, not_false_eq_true, if_true, if_false, ite_not, Bool.true_and, Bool.and_true, e12]
        rw [if_neg (by omega)]
        simp (decide := true) (disch := omega) only [rq_161_264, rq_161_273, Option.bind_some, xasI, xasL, xasR, xin_t, cond_true, cond_false, nI_clamp, k_0, k_1, k_2, k_3, k_4, k_5, k_6, k_40, k_60, k_500, k_10000, pk_mul, nI_add, nI_e0, nI_ee, nI_leI, nI_ltI, xbool0, xbool1, xbn0, xbn1, xb_0, xb_1, reduceIte, one0, Option.isNone_none, ne_eq, not_true_eq_false, not_false_eq_true, if_true, if_false, ite_not, Bool.true_and, Bool.and_true, c_spot]
      have h07 : ∀ q', xZ T0 MI 161 307 [some (vr (some B)), some (vi (nI h)), some (vi x2), some (vi (nI r)), o4] [] (rput B q' M) = xZ T0 MI 161 256 [some (vr (some B)), some (vi (nI h)), some (vi x2), some (vi (nI (r + 1))), o4] [] (rput B q' M) := by
        intro q'
        rw [bq_161_307, nI_s]
      rw [st]
      by_cases a1 : q.1 15 (40 * h + r) = nI 2
      · have h8 : nu q 82 0 < 1200 := by
          rcases hl 0 (by omega) with h8 | h8
          · rw [e82]; exact h8
          · exact absurd (e15.symm.trans a1) h8.1
        obtain ⟨q', e, f, l⟩ := c_gives (T0 := T0) (MI := MI) (B := B) (M := M) (o3 := none) (o4 := none) (o5 := none) (o6 := none) (o7 := none) (o8 := none) (o9 := none) l0 hGq hh (show r < 40 by omega) h8 a1
        refine ⟨q', ?_, f, l⟩
        rw [if_pos a1]
        simp (decide := true) (disch := omega) only [rq_161_278, bq_161_284, Option.bind_some, xasI, xasL, xasR, xin_t, cond_true, cond_false, nI_clamp, k_0, k_1, k_2, k_3, k_4, k_5, k_6, k_40, k_60, k_500, k_10000, pk_mul, nI_add, nI_e0, nI_ee, nI_leI, nI_ltI, xbool0, xbool1, xbn0, xbn1, xb_0, xb_1, reduceIte, one0, Option.isNone_none, ne_eq, not_true_eq_false, not_false_eq_true, if_true, if_false, ite_not, Bool.true_and, Bool.and_true, e]
        exact h07 q'
      · rw [if_neg a1]
        by_cases a2 : q.1 15 (40 * h + r) = nI 3
        · have h8 : nu q 82 0 < 1200 := by
            rcases hl 0 (by omega) with h8 | h8
            · rw [e82]; exact h8
            · exact absurd (e15.symm.trans a2) h8.2
          obtain ⟨q', e, f, l⟩ := c_closes (T0 := T0) (MI := MI) (B := B) (M := M) (o3 := none) (o4 := none) l0 hGq hh (show r < 40 by omega) h8 a2
          refine ⟨q', ?_, f, l⟩
          simp (decide := true) (disch := omega) only [rq_161_287, rq_161_296, Option.bind_some, xasI, xasL, xasR, xin_t, cond_true, cond_false, nI_clamp, k_0, k_1, k_2, k_3, k_4, k_5, k_6, k_40, k_60, k_500, k_10000, pk_mul, nI_add, nI_e0, nI_ee, nI_leI, nI_ltI, xbool0, xbool1, xbn0, xbn1, xb_0, xb_1, reduceIte, one0, Option.isNone_none, ne_eq, not_true_eq_false, not_false_eq_true, if_true, if_false, ite_not, Bool.true_and, Bool.and_true, c_spot]
          rw [if_pos a2]
          simp (decide := true) (disch := omega) only [rq_161_301, Option.bind_some, xasI, xasL, xasR, xin_t, cond_true, cond_false, nI_clamp, k_0, k_1, k_2, k_3, k_4, k_5, k_6, k_40, k_60, k_500, k_10000, pk_mul, nI_add, nI_e0, nI_ee, nI_leI, nI_ltI, xbool0, xbool1, xbn0, xbn1, xb_0, xb_1, reduceIte, one0, Option.isNone_none, ne_eq, not_true_eq_false, not_false_eq_true, if_true, if_false, ite_not, Bool.true_and, Bool.and_true, e]
          exact h07 q'
        · refine ⟨q, ?_, ?_, ?_⟩
          · simp (decide := true) (disch := omega) only [rq_161_287, rq_161_296, Option.bind_some, xasI, xasL, xasR, xin_t, cond_true, cond_false, nI_clamp, k_0, k_1, k_2, k_3, k_4, k_5, k_6, k_40, k_60, k_500, k_10000, pk_mul, nI_add, nI_e0, nI_ee, nI_leI, nI_ltI, xbool0, xbool1, xbn0, xbn1, xb_0, xb_1, reduceIte, one0, Option.isNone_none, ne_eq, not_true_eq_false, not_false_eq_true, if_true, if_false, ite_not, Bool.true_and, Bool.and_true, c_spot]
            rw [if_neg a2]
            exact h07 q
          · unfold agv
            rw [if_neg a1, if_neg a2]
            exact fl2_rf q
          · unfold agv
            rw [if_neg a1, if_neg a2]
            exact l0
    obtain ⟨q1, e1, f1, l1⟩ := key
    obtain ⟨c1, c2⟩ := agv_c f0 L h r
    rw [c2] at l1
    have sh : ∀ j, agvs h r (j + 1) z L = agvs h (r + 1) j (agv z L h r).1 (agv z L h r).2 := fun j => rfl
    obtain ⟨q', e, f, l⟩ := ih (r + 1) (by omega) q1 (agv z L h r).1 (agv z L h r).2 o4 (fl2_tr c1 f1) l1 (hG 1 (by omega)).2 (fun j hj => by rw [← sh]; exact hG (j + 1) (by omega)) (fun j hj => by
      rw [← sh, show r + 1 + j = r + (j + 1) by omega]
      have := hl (j + 1) (by omega)
      rw [show (agv z L h r).1.1 15 (40 * h + (r + (j + 1))) = z.1 15 (40 * h + (r + (j + 1))) from h15 1 (r + (j + 1)) (by omega) (by omega)]
      exact this) (fun j i hj hi => by
      rw [← sh, h15 (j + 1) i (by omega) (by omega)]
      exact (h15 1 i (by omega) (by omega)).symm)
    exact ⟨q', by rw [e1, e], f, l⟩
