/-! THE REFERENCE'S goesAgain, ends, chooses, gives, closes -/
theorem gnew_LX {q : xrho} {R : Nat → RW} {S : Nat → List Int32} {K Z : Nat → KW} {l : Nat} {k t f r e : Int32} (h : LXok q R S K Z) : LXok (gnew q l k t f r e) R S K Z := by
  unfold gnew
  repeat (first | exact h | refine LX_up rfl ?_)
theorem gpart_LX {q : xrho} {R : Nat → RW} {S : Nat → List Int32} {K Z : Nat → KW} {h r l : Nat} (h0 : LXok q R S K Z) : LXok (gpart q h r l) R S K Z := by
  unfold gpart
  refine LX_up rfl (LX_up rfl (LX_up rfl (LX_up rfl (gnew_LX h0))))
theorem ck3_LX {q : xrho} {R : Nat → RW} {S : Nat → List Int32} {K Z : Nat → KW} {g1 g2 : Nat → Int32} {g3 : Nat → Int64} {a b k : Nat} (h : LXok q R S K Z) : LXok (ck3 74 76 77 q g1 g2 g3 a b k) R S K Z := LX_c h (fun k' hk' => ck3_ne (Ne.symm (nf_ne (f := nf1) rfl hk')) (Ne.symm (nf_ne (f := nf1) rfl hk'))) (fun k' hk' => ck3_ne2 (Ne.symm (nf_ne (f := nf2) rfl hk')))
theorem c_ga_l {T0 MI B l was : Nat} {q : xrho} {M : xM} {o1 o2 o3 : Option xV} (hl : l < 1200) (hw : was < 1200) (hne : was ≠ l) (hb : ∀ x, x < 3600 → xbool (q.1 76 x) = true) : ∀ m k, k + m = 3 → xZ T0 MI 163 39 [some (vr (some B)), o1, o2, o3, some (vi (nI was)), some (vi (nI l)), some (vi (nI k))] [] (rput B (ck3 74 76 77 q (q.1 74) (q.1 76) (q.2 77) (3 * l) (3 * was) k) M) = xZ T0 MI 163 123 [some (vr (some B)), o1, o2, o3, some (vi (nI was)), some (vi (nI l)), some (vi (nI 3))] [] (rput B (ck3 74 76 77 q (q.1 74) (q.1 76) (q.2 77) (3 * l) (3 * was) 3) M) := by
  intro m
  induction m with
  | zero =>
    intro k hk
    have : k = 3 := by omega
    subst this
    rw [bq_163_39, if_pos (by decide)]
  | succ m ih =>
    intro k hk
    have r1 : (ck3 74 76 77 q (q.1 74) (q.1 76) (q.2 77) (3 * l) (3 * was) k).1 74 (3 * was + k) = q.1 74 (3 * was + k) := by
      rw [ck3_1, if_neg (by decide), if_pos rfl, cpF_out _ _ _ _ (by omega)]
    have r2 : (ck3 74 76 77 q (q.1 74) (q.1 76) (q.2 77) (3 * l) (3 * was) k).1 76 (3 * was + k) = q.1 76 (3 * was + k) := by
      rw [ck3_1, if_pos rfl, cpF_out _ _ _ _ (by omega)]
    have r3 : (ck3 74 76 77 q (q.1 74) (q.1 76) (q.2 77) (3 * l) (3 * was) k).2 77 (3 * was + k) = q.2 77 (3 * was + k) := by
      rw [ck3_2, if_pos rfl, cpF_out _ _ _ _ (by omega)]
    refine Eq.trans ?_ (ih (k + 1) (by omega))
    rw [← ck3_s (by decide), bq_163_39, if_neg (show ¬ (Int32.ofInt 3 ≤ nI k) by rw [k_3, nI_leI (by omega) (by omega)]; omega)]
    simp (decide := true) (disch := omega) only [rq_163_45, Option.bind_some, xasI, xasL, xasR, xin_t, cond_true, cond_false, nI_clamp, k_0, k_1, k_2, k_3, k_4, k_5, k_6, k_40, k_60, k_500, k_10000, pk_mul, nI_add, nI_e0, nI_ee, nI_leI, nI_ltI, xbool0, xbool1, xbn0, xbn1, xb_0, xb_1, reduceIte, one0, Option.isNone_none, ne_eq, not_true_eq_false, not_false_eq_true, if_true, if_false, ite_not, Bool.true_and, Bool.and_true, rup_ne, rup_2, r1, r2, r3, hb]
    rfl
def gga (q : xrho) (h r l was : Nat) : xrho := ck3 74 76 77 (rup (gpart q h r l) 69 l (q.1 69 was)) (q.1 74) (q.1 76) (q.2 77) (3 * l) (3 * was) 3
theorem c_goesAgain {T0 MI B h r l was : Nat} {q : xrho} {M : xM} {R : Nat → RW} {S : Nat → List Int32} {K Z : Nat → KW} {o3 o4 o5 o6 : Option xV} (h0 : LXok q R S K Z) (hh : h < 6) (hr : r < 40) (hl : l < 1200) (hq : q.1 82 0 = nI l) (hw : q.1 29 (40 * h + r) = nI was) (hwl : was < l) (hb : ∀ x, x < 3600 → xbool (q.1 76 x) = true) : ∃ q', xZ T0 MI 163 0 [some (vr (some B)), some (vi (nI h)), some (vi (nI r)), o3, o4, o5, o6] [] (rput B q M) = some (none, rput B q' M) ∧ fl2 (gga q h r l was) q' ∧ LXok q' R S K (cpZ Z l (fun c => Z (6 * was + c)) 6) := by
  have l1 : LXok (gga q h r l was) R S K Z := ck3_LX (LX_up rfl (gpart_LX h0))
  obtain ⟨q', e, f, l2⟩ := c_copyKept (T0 := T0) (MI := MI) (B := B) (M := M) (l := l) (was := was) (o3 := none) (o4 := none) (o5 := none) (o6 := none) l1 hl (by omega) (by omega)
  refine ⟨q', ?_, f, l2⟩
  rw [bq_163_0, c_spot]
  simp (decide := true) (disch := omega) only [rq_163_5, Option.bind_some, xasI, xasL, xasR, xin_t, cond_true, cond_false, nI_clamp, k_0, k_1, k_2, k_3, k_4, k_5, k_6, k_40, k_60, k_500, k_10000, pk_mul, nI_add, nI_e0, nI_ee, nI_leI, nI_ltI, xbool0, xbool1, xbn0, xbn1, xb_0, xb_1, reduceIte, one0, Option.isNone_none, ne_eq, not_true_eq_false, not_false_eq_true, if_true, if_false, ite_not, Bool.true_and, Bool.and_true, hw]
  rw [c_partLetter hh hr hl hq]
  simp (decide := true) (disch := omega) only [rq_163_20, Option.bind_some, xasI, xasL, xasR, xin_t, cond_true, cond_false, nI_clamp, k_0, k_1, k_2, k_3, k_4, k_5, k_6, k_40, k_60, k_500, k_10000, pk_mul, nI_add, nI_e0, nI_ee, nI_leI, nI_ltI, xbool0, xbool1, xbn0, xbn1, xb_0, xb_1, reduceIte, one0, Option.isNone_none, ne_eq, not_true_eq_false, not_false_eq_true, if_true, if_false, ite_not, Bool.true_and, Bool.and_true]
  have e1 : (gpart q h r l).1 69 was = q.1 69 was := by
    show (rup (rup (rup (rup (rup (rup (rup (rup (rup q 60 l _) 61 l _) 62 l _) 63 l _) 64 l _) 66 l _) 67 l _) 68 l _) 69 l _).1 69 was = _
    rw [rup_nx _ _ _ _ (by omega)]
    rfl
  rw [e1]
  have e2 := c_ga_l (T0 := T0) (MI := MI) (B := B) (M := M) (o1 := some (vi (nI h))) (o2 := some (vi (nI r))) (o3 := some (vi (nI (40 * h + r)))) (l := l) (was := was) (q := rup (gpart q h r l) 69 l (q.1 69 was)) hl (by omega) (by omega) hb 3 0 (by omega)
  rw [ck3_0] at e2
  rw [e2]
  show xZ T0 MI 163 123 [some (vr (some B)), some (vi (nI h)), some (vi (nI r)), some (vi (nI (40 * h + r))), some (vi (nI was)), some (vi (nI l)), some (vi (nI 3))] [] (rput B (gga q h r l was) M) = _
  simp (decide := true) (disch := omega) only [rq_163_123, bq_163_131, Option.bind_some, xasI, xasL, xasR, xin_t, cond_true, cond_false, nI_clamp, k_0, k_1, k_2, k_3, k_4, k_5, k_6, k_40, k_60, k_500, k_10000, pk_mul, nI_add, nI_e0, nI_ee, nI_leI, nI_ltI, xbool0, xbool1, xbn0, xbn1, xb_0, xb_1, reduceIte, one0, Option.isNone_none, ne_eq, not_true_eq_false, not_false_eq_true, if_true, if_false, ite_not, Bool.true_and, Bool.and_true, e]
/-- ends -/
theorem c_end_i {T0 MI B l p c : Nat} {q : xrho} {M : xM} {o1 o2 : Option xV} (hl : l < 1200) (hp : p < 240) (hc : c < 6) : ∀ m k, k + m = 4 → ∀ o7 o8, ∃ o6' o7' o8', xZ T0 MI 165 60 [some (vr (some B)), o1, o2, some (vi (nI p)), some (vi (nI l)), some (vi (nI c)), some (vi (nI k)), o7, o8] [] (rput B (ck3 79 80 81 q (q.1 35) (q.1 36) (q.2 37) (4 * (6 * l + c)) (4 * (6 * p + c)) k) M) = xZ T0 MI 165 25 [some (vr (some B)), o1, o2, some (vi (nI p)), some (vi (nI l)), some (vi (nI (c + 1))), o6', o7', o8'] [] (rput B (ck3 79 80 81 q (q.1 35) (q.1 36) (q.2 37) (4 * (6 * l + c)) (4 * (6 * p + c)) 4) M) := by
  intro m
  induction m with
  | zero =>
    intro k hk o7 o8
    have : k = 4 := by omega
    subst this
    exact ⟨some (vi (nI 4)), o7, o8, by simp (decide := true) (disch := omega) only [bq_165_60, bq_165_143, Option.bind_some, xasI, xasL, xasR, xin_t, cond_true, cond_false, nI_clamp, k_0, k_1, k_2, k_3, k_4, k_5, k_6, k_40, k_60, k_500, k_10000, pk_mul, nI_add, nI_e0, nI_ee, nI_leI, nI_ltI, xbool0, xbool1, xbn0, xbn1, xb_0, xb_1, reduceIte, one0, Option.isNone_none, ne_eq, not_true_eq_false, not_false_eq_true, if_true, if_false, ite_not, Bool.true_and, Bool.and_true]⟩
  | succ m ih =>
    intro k hk o7 o8
    obtain ⟨o6', o7', o8', e⟩ := ih (k + 1) (by omega) (some (vi (nI (4 * (6 * l + c) + k)))) (some (vi (nI (4 * (6 * p + c) + k))))
    refine ⟨o6', o7', o8', ?_⟩
    refine Eq.trans ?_ e
    rw [← ck3_s (by decide), bq_165_60, if_neg (show ¬ (Int32.ofInt 4 ≤ nI k) by rw [k_4, nI_leI (by omega) (by omega)]; omega)]
    simp (decide := true) (disch := omega) only [rq_165_66, Option.bind_some, xasI, xasL, xasR, xin_t, cond_true, cond_false, nI_clamp, k_0, k_1, k_2, k_3, k_4, k_5, k_6, k_40, k_60, k_500, k_10000, pk_mul, nI_add, nI_e0, nI_ee, nI_leI, nI_ltI, xbool0, xbool1, xbn0, xbn1, xb_0, xb_1, reduceIte, one0, Option.isNone_none, ne_eq, not_true_eq_false, not_false_eq_true, if_true, if_false, ite_not, Bool.true_and, Bool.and_true]
    rfl
theorem c_ends_l {T0 MI B l p : Nat} {M : xM} {R : Nat → RW} {S : Nat → List Int32} {K Z : Nat → KW} {o1 o2 : Option xV} (hl : l < 1200) (hp : p < 240) : ∀ m c, c + m = 6 → ∀ (q : xrho) (o6 o7 o8 : Option xV), LXok q R S K (cpZ Z l (fun c => K (6 * p + c)) c) → ∃ q', xZ T0 MI 165 25 [some (vr (some B)), o1, o2, some (vi (nI p)), some (vi (nI l)), some (vi (nI c)), o6, o7, o8] [] (rput B q M) = some (none, rput B (rup (rup (rup q' 29 p (nI l)) 28 p (Int32.ofInt (-1))) 32 p (nI 0)) M) ∧ fl2 q q' ∧ LXok q' R S K (cpZ Z l (fun c => K (6 * p + c)) 6) := by
  intro m
  induction m with
  | zero =>
    intro c hc q o6 o7 o8 h
    have : c = 6 := by omega
    subst this
    exact ⟨q, by simp (decide := true) (disch := omega) only [bq_165_25, rq_165_149, Option.bind_some, xasI, xasL, xasR, xin_t, cond_true, cond_false, nI_clamp, k_0, k_1, k_2, k_3, k_4, k_5, k_6, k_40, k_60, k_500, k_10000, pk_mul, nI_add, nI_e0, nI_ee, nI_leI, nI_ltI, xbool0, xbool1, xbn0, xbn1, xb_0, xb_1, reduceIte, one0, Option.isNone_none, ne_eq, not_true_eq_false, not_false_eq_true, if_true, if_false, ite_not, Bool.true_and, Bool.and_true], fl2_rf q, h⟩
  | succ m ih =>
    intro c hc q o6 o7 o8 h
    have hs : PKw (q.1 34 (6 * p + c)) (q.1 35) (q.1 36) (q.2 37) (6 * p + c) (K (6 * p + c)) := PK_w.mp (h.1.2.2 (6 * p + c) (by omega))
    obtain ⟨l1, f1⟩ := LX_z (l := l) (c := c) h hs
    rw [show va_up (cpZ Z l (fun c => K (6 * p + c)) c) (6 * l + c) (K (6 * p + c)) = cpZ Z l (fun c => K (6 * p + c)) (c + 1) from cpZ_s Z l (fun c => K (6 * p + c)) c] at l1
    obtain ⟨o6', o7', o8', e⟩ := c_end_i (T0 := T0) (MI := MI) (B := B) (M := M) (o1 := o1) (o2 := o2) (q := rup q 78 (6 * l + c) (q.1 34 (6 * p + c))) hl hp (c := c) (by omega) 4 0 (by omega) o7 o8
    rw [ck3_0] at e
    obtain ⟨q', e2, f2, l2⟩ := ih (c + 1) (by omega) _ o6' o7' o8' l1
    refine ⟨q', ?_, fl2_tr f1 f2, l2⟩
    rw [← e2]
    refine Eq.trans ?_ e
    simp (decide := true) (disch := omega) only [bq_165_25, rq_165_32, Option.bind_some, xasI, xasL, xasR, xin_t, cond_true, cond_false, nI_clamp, k_0, k_1, k_2, k_3, k_4, k_5, k_6, k_40, k_60, k_500, k_10000, pk_mul, nI_add, nI_e0, nI_ee, nI_leI, nI_ltI, xbool0, xbool1, xbn0, xbn1, xb_0, xb_1, reduceIte, one0, Option.isNone_none, ne_eq, not_true_eq_false, not_false_eq_true, if_true, if_false, ite_not, Bool.true_and, Bool.and_true]
    rw [if_neg (by omega)]
def gends (q : xrho) (h r l : Nat) : xrho := rup (rup (rup (rup (gpart q h r l) 69 l (Int32.ofInt (-1))) 29 (40 * h + r) (nI l)) 28 (40 * h + r) (Int32.ofInt (-1))) 32 (40 * h + r) (nI 0)
theorem c_ends {T0 MI B h r l : Nat} {q : xrho} {M : xM} {R : Nat → RW} {S : Nat → List Int32} {K Z : Nat → KW} {o3 o4 o5 o6 o7 o8 : Option xV} (h0 : LXok q R S K Z) (hh : h < 6) (hr : r < 40) (hl : l < 1200) (hq : q.1 82 0 = nI l) : ∃ q', xZ T0 MI 165 0 [some (vr (some B)), some (vi (nI h)), some (vi (nI r)), o3, o4, o5, o6, o7, o8] [] (rput B q M) = some (none, rput B q' M) ∧ fl2 (gends q h r l) q' ∧ LXok q' R S K (cpZ Z l (fun c => K (6 * (40 * h + r) + c)) 6) := by
  have l1 : LXok (rup (gpart q h r l) 69 l (Int32.ofInt (-1))) R S K Z := LX_up rfl (gpart_LX h0)
  obtain ⟨q', e, f, l2⟩ := c_ends_l (T0 := T0) (MI := MI) (B := B) (M := M) (l := l) (p := 40 * h + r) (o1 := some (vi (nI h))) (o2 := some (vi (nI r))) (Z := Z) hl (by omega) 6 0 (by omega) _ o6 o7 o8 (by rw [cpZ_0]; exact l1)
  refine ⟨_, ?_, fl2_up (fl2_up (fl2_up f _ _ _) _ _ _) _ _ _, LX_up rfl (LX_up rfl (LX_up rfl l2))⟩
  rw [bq_165_0, c_spot]
  simp (decide := true) (disch := omega) only [rq_165_5, Option.bind_some, xasI, xasL, xasR, xin_t, cond_true, cond_false, nI_clamp, k_0, k_1, k_2, k_3, k_4, k_5, k_6, k_40, k_60, k_500, k_10000, pk_mul, nI_add, nI_e0, nI_ee, nI_leI, nI_ltI, xbool0, xbool1, xbn0, xbn1, xb_0, xb_1, reduceIte, one0, Option.isNone_none, ne_eq, not_true_eq_false, not_false_eq_true, if_true, if_false, ite_not, Bool.true_and, Bool.and_true]
  rw [c_partLetter hh hr hl hq]
  simp (decide := true) (disch := omega) only [rq_165_12, Option.bind_some, xasI, xasL, xasR, xin_t, cond_true, cond_false, nI_clamp, k_0, k_1, k_2, k_3, k_4, k_5, k_6, k_40, k_60, k_500, k_10000, pk_mul, nI_add, nI_e0, nI_ee, nI_leI, nI_ltI, xbool0, xbool1, xbn0, xbn1, xb_0, xb_1, reduceIte, one0, Option.isNone_none, ne_eq, not_true_eq_false, not_false_eq_true, if_true, if_false, ite_not, Bool.true_and, Bool.and_true]
  exact e
/-! chooses: the parcel as a list -/
abbrev PW : Type := List (Int32 × Int32 × Int64)
def wrF {α : Type} (f : Nat → α) (l : List α) (b : Nat) : Nat → α := fun x => if b ≤ x then (l[x - b]?).getD (f x) else f x
theorem wrF_nil {α : Type} (f : Nat → α) (b : Nat) : wrF f [] b = f := by
  funext x
  unfold wrF
  split <;> simp
theorem wrF_s {α : Type} (f : Nat → α) (l : List α) (b : Nat) (a : α) (x : Nat) : wrF f (l ++ [a]) b x = if x = b + l.length then a else wrF f l b x := by
  unfold wrF
  by_cases e : b ≤ x
  · rw [if_pos e, if_pos e]
    by_cases e2 : x = b + l.length
    · rw [if_pos e2, e2, Nat.add_sub_cancel_left]
      simp
    · rw [if_neg e2]
      by_cases e3 : x - b < l.length
      · rw [List.getElem?_append_left e3]
      · rw [List.getElem?_eq_none (by simp; omega), List.getElem?_eq_none (by omega)]
  · rw [if_neg e, if_neg e, if_neg (by omega)]
theorem wrF_in {α : Type} (f : Nat → α) (l : List α) (b : Nat) {j : Nat} (h : j < l.length) : wrF f l b (b + j) = l[j] := by
  unfold wrF
  rw [if_pos (by omega), Nat.add_sub_cancel_left, List.getElem?_eq_getElem h]
  rfl
theorem wrF_out {α : Type} (f : Nat → α) (l : List α) (b : Nat) {x : Nat} (h : x < b ∨ b + l.length ≤ x) : wrF f l b x = f x := by
  unfold wrF
  split
  · rw [List.getElem?_eq_none (by omega)]; rfl
  · rfl
def wrP (q : xrho) (l : Nat) (acc : PW) : xrho := (va_up (va_up q.1 74 (wrF (q.1 74) (acc.map Prod.fst) (3 * l))) 76 (wrF (q.1 76) (acc.map (fun x => x.2.1)) (3 * l)), va_up q.2 77 (wrF (q.2 77) (acc.map (fun x => x.2.2)) (3 * l)))
theorem wrP_1 (q : xrho) (l : Nat) (acc : PW) (f : Nat) : (wrP q l acc).1 f = if f = 76 then wrF (q.1 76) (acc.map (fun x => x.2.1)) (3 * l) else if f = 74 then wrF (q.1 74) (acc.map Prod.fst) (3 * l) else q.1 f := by
  unfold wrP va_up
  rfl
theorem wrP_2 (q : xrho) (l : Nat) (acc : PW) (f : Nat) : (wrP q l acc).2 f = if f = 77 then wrF (q.2 77) (acc.map (fun x => x.2.2)) (3 * l) else q.2 f := by
  unfold wrP va_up
  rfl
theorem wrP_nil (q : xrho) (l : Nat) : wrP q l [] = q := by
  refine xr_ext (fun f x => ?_) (fun f x => ?_)
  · rw [wrP_1, List.map_nil, List.map_nil, wrF_nil, wrF_nil]
    by_cases e : f = 76
    · rw [if_pos e, e]
    · rw [if_neg e]
      by_cases e : f = 74
      · rw [if_pos e, e]
      · rw [if_neg e]
  · rw [wrP_2, List.map_nil, wrF_nil]
    by_cases e : f = 77
    · rw [if_pos e, e]
    · rw [if_neg e]
theorem wrP_s (q : xrho) (l : Nat) (acc : PW) (a b : Int32) (c : Int64) : rupL (rup (rup (wrP q l acc) 74 (3 * l + acc.length) a) 76 (3 * l + acc.length) b) 77 (3 * l + acc.length) c = wrP q l (acc ++ [(a, b, c)]) := by
  refine xr_ext (fun f x => ?_) (fun f x => ?_)
  · rw [rupL_1, rup_r, rup_r, wrP_1, wrP_1, List.map_append, List.map_append]
    show _ = (if f = 76 then wrF (q.1 76) (acc.map (fun x => x.2.1) ++ [b]) (3 * l) else if f = 74 then wrF (q.1 74) (acc.map Prod.fst ++ [a]) (3 * l) else q.1 f) x
    by_cases e : f = 76
    · subst e
      rw [if_pos rfl, if_pos rfl, wrF_s, List.length_map]
      by_cases e2 : x = 3 * l + acc.length
      · rw [if_pos ⟨rfl, e2⟩, if_pos e2]
      · rw [if_neg (fun h => e2 h.2), if_neg (fun h => e2 h.2), if_neg e2]
    · rw [if_neg (fun h => e h.1), if_neg e, if_neg e]
      by_cases e3 : f = 74
      · subst e3
        rw [if_pos rfl, if_pos rfl, wrF_s, List.length_map]
        by_cases e2 : x = 3 * l + acc.length
        · rw [if_pos ⟨rfl, e2⟩, if_pos e2]
        · rw [if_neg (fun h => e2 h.2), if_neg e2]
      · rw [if_neg (fun h => e3 h.1), if_neg e3, if_neg e3]
  · rw [rupL_r, rup_2, rup_2, wrP_2, wrP_2, List.map_append]
    show _ = (if f = 77 then wrF (q.2 77) (acc.map (fun x => x.2.2) ++ [c]) (3 * l) else q.2 f) x
    by_cases e : f = 77
    · subst e
      rw [if_pos rfl, if_pos rfl, wrF_s, List.length_map]
      by_cases e2 : x = 3 * l + acc.length
      · rw [if_pos ⟨rfl, e2⟩, if_pos e2]
      · rw [if_neg (fun h => e2 h.2), if_neg e2]
    · rw [if_neg (fun h => e h.1), if_neg e, if_neg e]
theorem wrP_LX {q : xrho} {R : Nat → RW} {S : Nat → List Int32} {K Z : Nat → KW} {l : Nat} {acc : PW} (h : LXok q R S K Z) : LXok (wrP q l acc) R S K Z := by
  refine LX_c h (fun k' hk' => ?_) (fun k' hk' => ?_)
  · rw [wrP_1, if_neg (Ne.symm (nf_ne (f := nf1) rfl hk')), if_neg (Ne.symm (nf_ne (f := nf1) rfl hk'))]
  · rw [wrP_2, if_neg (Ne.symm (nf_ne (f := nf2) rfl hk'))]
def lkv (o : Option (Int32 × Int64)) : Int64 := match o with
  | some x => x.2
  | none => 0
def chL (R : RW) (w : Bool) (acc : PW) (key : Int32) : PW := if acc.length = 3 ∨ (lkp Prod.fst key R).isSome ≠ w then acc else acc ++ [(key, zI w, lkv (lkp Prod.fst key R))]
theorem chL_len {R : RW} {w : Bool} {acc : PW} {key : Int32} (h : acc.length ≤ 3) : (chL R w acc key).length ≤ 3 := by
  unfold chL
  split
  · exact h
  · rename_i h2
    simp
    omega
theorem PR_lkp {q : xrho} {p : Nat} {l : RW} (h : PR q p l) (key : Int32) : match rfnd (fun j => q.1 20 (60 * p + j)) key 0 l.length with
    | some j => j < 60 ∧ lkp Prod.fst key l = some (key, q.2 27 (60 * p + j))
    | none => lkp Prod.fst key l = none := by
  have e := rfnd_lkp (k := (Prod.fst : Int32 × Int64 → Int32)) (f := fun x => (q.1 20 x, q.2 27 x)) (b := 60 * p) (key := key) (m := l.length) (i := 0)
  have e2 : win (fun x => (q.1 20 x, q.2 27 x)) (60 * p + 0) l.length = l := by
    have := h.2.2.1
    unfold rowsV at this
    rw [PR_nu h] at this
    exact this
  rw [e2] at e
  have hb := h.2.1
  cases hf : rfnd (fun j => q.1 20 (60 * p + j)) key 0 l.length with
  | none =>
    dsimp only
    rw [← e]
    show Option.map _ (rfnd (fun j => q.1 20 (60 * p + j)) key 0 l.length) = _
    rw [hf]
    rfl
  | some j =>
    obtain ⟨-, h2, h3⟩ := rfnd_lt hf
    refine ⟨by omega, ?_⟩
    rw [← e]
    show Option.map _ (rfnd (fun j => q.1 20 (60 * p + j)) key 0 l.length) = _
    rw [hf]
    show some (q.1 20 (60 * p + j), q.2 27 (60 * p + j)) = _
    rw [h3]
theorem c_chooses {T0 MI B l p i : Nat} {z : xrho} {M : xM} {R : RW} {acc : PW} {w : Bool} {key : Int32} {o6 : Option xV} (hR : PR z p R) (hp : p < 240) (hl : l < 1200) (hi : i < 120000) (hk : z.1 26 i = key) (ha : acc.length ≤ 3) : xZ T0 MI 167 0 [some (vr (some B)), some (vi (nI l)), some (vi (nI p)), some (vi (nI i)), some (vi (nI acc.length)), some (vi (zI w)), o6] [] (rput B (wrP z l acc) M) = some (some (vi (nI (chL R w acc key).length)), rput B (wrP z l (chL R w acc key)) M) := by
  have hR2 : PR (wrP z l acc) p R := PR_c hR rfl (fun _ _ => ⟨rfl, rfl⟩)
  have e26 : (wrP z l acc).1 26 i = key := hk
  have hl2 := PR_lkp hR2 key
  simp (decide := true) (disch := omega) only [rq_167_0, Option.bind_some, xasI, xasL, xasR, xin_t, cond_true, cond_false, nI_clamp, k_0, k_1, k_2, k_3, k_4, k_5, k_6, k_40, k_60, k_500, k_10000, pk_mul, nI_add, nI_e0, nI_ee, nI_leI, nI_ltI, xbool0, xbool1, xbn0, xbn1, xb_0, xb_1, reduceIte, one0, Option.isNone_none, ne_eq, not_true_eq_false, not_false_eq_true, if_true, if_false, ite_not, Bool.true_and, Bool.and_true, e26]
  rw [c_rowAt hp hR2.2.1 hR2.1]
  unfold chL
  have hm : ∀ o : Option Nat, o = rfnd (fun j => (wrP z l acc).1 20 (60 * p + j)) key 0 R.length → (match o with
    | some j => j < 60 ∧ lkp Prod.fst key R = some (key, (wrP z l acc).2 27 (60 * p + j))
    | none => lkp Prod.fst key R = none) := fun o ho => by rw [ho]; exact hl2
  generalize rfnd (fun j => (wrP z l acc).1 20 (60 * p + j)) key 0 R.length = o at hm
  have hm := hm o rfl
  by_cases h3 : acc.length = 3
  · rw [if_pos (Or.inl h3), h3]
    simp (decide := true) (disch := omega) only [bq_167_11, bq_167_34, Option.bind_some, xasI, xasL, xasR, xin_t, cond_true, cond_false, nI_clamp, k_0, k_1, k_2, k_3, k_4, k_5, k_6, k_40, k_60, k_500, k_10000, pk_mul, nI_add, nI_e0, nI_ee, nI_leI, nI_ltI, xbool0, xbool1, xbn0, xbn1, xb_0, xb_1, reduceIte, one0, Option.isNone_none, ne_eq, not_true_eq_false, not_false_eq_true, if_true, if_false, ite_not, Bool.true_and, Bool.and_true]
  · cases o with
    | none =>
      dsimp only at hm
      rw [hm]
      cases w with
      | true =>
        rw [if_pos (Or.inr (by decide))]
        simp (decide := true) (disch := omega) only [bq_167_11, Option.bind_some, xasI, xasL, xasR, xin_t, cond_true, cond_false, nI_clamp, k_0, k_1, k_2, k_3, k_4, k_5, k_6, k_40, k_60, k_500, k_10000, pk_mul, nI_add, nI_e0, nI_ee, nI_leI, nI_ltI, xbool0, xbool1, xbn0, xbn1, xb_0, xb_1, reduceIte, one0, Option.isNone_none, ne_eq, not_true_eq_false, not_false_eq_true, if_true, if_false, ite_not, Bool.true_and, Bool.and_true]
        rw [if_neg h3]
        rw [bq_167_19, if_pos (show rfndI none (60 * p) < 0 from (by decide : Int32.ofInt (-1) < 0))]
        simp (decide := true) (disch := omega) only [bq_167_28, bq_167_29, bq_167_34, Option.bind_some, xasI, xasL, xasR, xin_t, cond_true, cond_false, nI_clamp, k_0, k_1, k_2, k_3, k_4, k_5, k_6, k_40, k_60, k_500, k_10000, pk_mul, nI_add, nI_e0, nI_ee, nI_leI, nI_ltI, xbool0, xbool1, xbn0, xbn1, xb_0, xb_1, reduceIte, one0, Option.isNone_none, ne_eq, not_true_eq_false, not_false_eq_true, if_true, if_false, ite_not, Bool.true_and, Bool.and_true, zI_t]
      | false =>
        rw [if_neg (by rintro (e | e); exact h3 e; exact e rfl)]
        simp (decide := true) (disch := omega) only [bq_167_11, Option.bind_some, xasI, xasL, xasR, xin_t, cond_true, cond_false, nI_clamp, k_0, k_1, k_2, k_3, k_4, k_5, k_6, k_40, k_60, k_500, k_10000, pk_mul, nI_add, nI_e0, nI_ee, nI_leI, nI_ltI, xbool0, xbool1, xbn0, xbn1, xb_0, xb_1, reduceIte, one0, Option.isNone_none, ne_eq, not_true_eq_false, not_false_eq_true, if_true, if_false, ite_not, Bool.true_and, Bool.and_true]
        rw [if_neg h3, bq_167_19, if_pos (show rfndI none (60 * p) < 0 from (by decide : Int32.ofInt (-1) < 0))]
        simp (decide := true) (disch := omega) only [bq_167_28, bq_167_29, rq_167_37, bq_167_92, rq_167_93, Option.bind_some, xasI, xasL, xasR, xin_t, cond_true, cond_false, nI_clamp, k_0, k_1, k_2, k_3, k_4, k_5, k_6, k_40, k_60, k_500, k_10000, pk_mul, nI_add, nI_e0, nI_ee, nI_leI, nI_ltI, xbool0, xbool1, xbn0, xbn1, xb_0, xb_1, reduceIte, one0, Option.isNone_none, ne_eq, not_true_eq_false, not_false_eq_true, if_true, if_false, ite_not, Bool.true_and, Bool.and_true, zI_f, e26]
        rw [← wrP_s, List.length_append]
        rfl
    | some j =>
      dsimp only at hm
      obtain ⟨hj, hm⟩ := hm
      rw [hm]
      cases w with
      | false =>
        rw [if_pos (Or.inr (fun e => by simp at e))]
        simp (decide := true) (disch := omega) only [bq_167_11, Option.bind_some, xasI, xasL, xasR, xin_t, cond_true, cond_false, nI_clamp, k_0, k_1, k_2, k_3, k_4, k_5, k_6, k_40, k_60, k_500, k_10000, pk_mul, nI_add, nI_e0, nI_ee, nI_leI, nI_ltI, xbool0, xbool1, xbn0, xbn1, xb_0, xb_1, reduceIte, one0, Option.isNone_none, ne_eq, not_true_eq_false, not_false_eq_true, if_true, if_false, ite_not, Bool.true_and, Bool.and_true]
        rw [if_neg h3]
        show xZ T0 MI 167 19 [some (vr (some B)), some (vi (nI l)), some (vi (nI p)), some (vi (nI i)), some (vi (nI acc.length)), some (vi (zI false)), some (vi (nI (60 * p + j)))] [] (rput B (wrP z l acc) M) = _
        rw [bq_167_19, if_neg (nI_pos (by omega))]
        simp (decide := true) (disch := omega) only [bq_167_24, bq_167_29, bq_167_34, Option.bind_some, xasI, xasL, xasR, xin_t, cond_true, cond_false, nI_clamp, k_0, k_1, k_2, k_3, k_4, k_5, k_6, k_40, k_60, k_500, k_10000, pk_mul, nI_add, nI_e0, nI_ee, nI_leI, nI_ltI, xbool0, xbool1, xbn0, xbn1, xb_0, xb_1, reduceIte, one0, Option.isNone_none, ne_eq, not_true_eq_false, not_false_eq_true, if_true, if_false, ite_not, Bool.true_and, Bool.and_true, zI_f]
      | true =>
        rw [if_neg (by rintro (e | e); exact h3 e; exact e rfl)]
        simp (decide := true) (disch := omega) only [bq_167_11, Option.bind_some, xasI, xasL, xasR, xin_t, cond_true, cond_false, nI_clamp, k_0, k_1, k_2, k_3, k_4, k_5, k_6, k_40, k_60, k_500, k_10000, pk_mul, nI_add, nI_e0, nI_ee, nI_leI, nI_ltI, xbool0, xbool1, xbn0, xbn1, xb_0, xb_1, reduceIte, one0, Option.isNone_none, ne_eq, not_true_eq_false, not_false_eq_true, if_true, if_false, ite_not, Bool.true_and, Bool.and_true]
        rw [if_neg h3]
        show xZ T0 MI 167 19 [some (vr (some B)), some (vi (nI l)), some (vi (nI p)), some (vi (nI i)), some (vi (nI acc.length)), some (vi (zI true)), some (vi (nI (60 * p + j)))] [] (rput B (wrP z l acc) M) = _
        rw [bq_167_19, if_neg (nI_pos (by omega))]
        simp (decide := true) (disch := omega) only [bq_167_24, bq_167_29, rq_167_37, rq_167_82, rq_167_93, Option.bind_some, xasI, xasL, xasR, xin_t, cond_true, cond_false, nI_clamp, k_0, k_1, k_2, k_3, k_4, k_5, k_6, k_40, k_60, k_500, k_10000, pk_mul, nI_add, nI_e0, nI_ee, nI_leI, nI_ltI, xbool0, xbool1, xbn0, xbn1, xb_0, xb_1, reduceIte, one0, Option.isNone_none, ne_eq, not_true_eq_false, not_false_eq_true, if_true, if_false, ite_not, Bool.true_and, Bool.and_true, zI_t, e26]
        rw [← wrP_s, List.length_append]
        rfl
