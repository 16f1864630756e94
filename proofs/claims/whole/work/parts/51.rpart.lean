/-! THE REFERENCE'S takesPart, parted -/
theorem LX_k {q : xrho} {R : Nat → RW} {S : Nat → List Int32} {K Z : Nat → KW} {l c b : Nat} {n : Int32} {g1 g2 : Nat → Int32} {g3 : Nat → Int64} {k : KW} (h : LXok q R S K Z) (hk : PKw n g1 g2 g3 b k) : LXok (ck3 35 36 37 (rup q 34 (6 * l + c) n) g1 g2 g3 (4 * (6 * l + c)) (4 * b) 4) R S (va_up K (6 * l + c) k) Z ∧ fl2 q (ck3 35 36 37 (rup q 34 (6 * l + c) n) g1 g2 g3 (4 * (6 * l + c)) (4 * b) 4) := by
  have ne : ∀ f, f ≠ 34 → f ≠ 35 → f ≠ 36 → (ck3 35 36 37 (rup q 34 (6 * l + c) n) g1 g2 g3 (4 * (6 * l + c)) (4 * b) 4).1 f = q.1 f := fun f h1 h2 h3 => by rw [ck3_ne h2 h3, rup_ne _ _ _ _ h1]
  have ne2 : ∀ f, f ≠ 37 → (ck3 35 36 37 (rup q 34 (6 * l + c) n) g1 g2 g3 (4 * (6 * l + c)) (4 * b) 4).2 f = q.2 f := fun f h1 => by rw [ck3_ne2 h1, rup_2]
  refine ⟨⟨⟨fun p hp => PR_c (h.1.1 p hp) (by rw [ne _ (by decide) (by decide) (by decide)]) (fun j _ => ⟨by rw [ne _ (by decide) (by decide) (by decide)], by rw [ne2 _ (by decide)]⟩), fun p hp => PS_c (h.1.2.1 p hp) (by rw [ne _ (by decide) (by decide) (by decide)]) (fun j _ => by rw [ne _ (by decide) (by decide) (by decide)]), fun x hx => ?_⟩, fun x hx => ?_⟩, ⟨fun k' hk' => ne _ (nf_ne hk' rfl) (nf_ne hk' rfl) (nf_ne hk' rfl), fun k' hk' => ne2 _ (nf_ne hk' rfl)⟩⟩
  · rw [PK_w]
    have e34 : (ck3 35 36 37 (rup q 34 (6 * l + c) n) g1 g2 g3 (4 * (6 * l + c)) (4 * b) 4).1 34 x = if x = 6 * l + c then n else q.1 34 x := by
      rw [ck3_ne (by decide) (by decide), rup_i]
    by_cases e : x = 6 * l + c
    · subst e
      rw [va_up_self]
      refine PKw_c (by rw [e34, if_pos rfl]) (fun j hj => ?_) hk
      refine ⟨?_, ?_, ?_⟩
      · rw [ck3_1, if_neg (by decide), if_pos rfl, cpF_in _ _ _ _ hj]
      · rw [ck3_1, if_pos rfl, cpF_in _ _ _ _ hj]
      · rw [ck3_2, if_pos rfl, cpF_in _ _ _ _ hj]
    · rw [va_up_ne _ _ e]
      refine PKw_c (by rw [e34, if_neg e]) (fun j hj => ?_) (PK_w.mp (h.1.2.2 x hx))
      refine ⟨?_, ?_, ?_⟩
      · rw [ck3_1, if_neg (by decide), if_pos rfl, cpF_out _ _ _ _ (by omega)]
        rfl
      · rw [ck3_1, if_pos rfl, cpF_out _ _ _ _ (by omega)]
        rfl
      · rw [ck3_2, if_pos rfl, cpF_out _ _ _ _ (by omega)]
        rfl
  · have := h.2 x hx
    unfold PL lkeptV nu at this ⊢
    rw [ne _ (by decide) (by decide) (by decide), ne 79 (by decide) (by decide) (by decide), ne 80 (by decide) (by decide) (by decide), ne2 _ (by decide)]
    exact this
theorem c_tk_i {T0 MI B l p c : Nat} {q : xrho} {M : xM} (hl : l < 1200) (hp : p < 240) (hc : c < 6) : ∀ m k, k + m = 4 → ∀ o5 o6, ∃ o4' o5' o6', xZ T0 MI 182 136 [some (vr (some B)), some (vi (nI l)), some (vi (nI p)), some (vi (nI c)), some (vi (nI k)), o5, o6] [] (rput B (ck3 35 36 37 q (q.1 79) (q.1 80) (q.2 81) (4 * (6 * p + c)) (4 * (6 * l + c)) k) M) = xZ T0 MI 182 105 [some (vr (some B)), some (vi (nI l)), some (vi (nI p)), some (vi (nI (c + 1))), o4', o5', o6'] [] (rput B (ck3 35 36 37 q (q.1 79) (q.1 80) (q.2 81) (4 * (6 * p + c)) (4 * (6 * l + c)) 4) M) := by
  intro m
  induction m with
  | zero =>
    intro k hk o5 o6
    have : k = 4 := by omega
    subst this
    exact ⟨some (vi (nI 4)), o5, o6, by simp (decide := true) (disch := omega) only [bq_182_136, bq_182_216, Option.bind_some, xasI, xasL, xasR, xin_t, cond_true, cond_false, nI_clamp, k_0, k_1, k_2, k_3, k_4, k_5, k_6, k_40, k_60, k_500, k_10000, pk_mul, nI_add, nI_e0, nI_ee, nI_leI, nI_ltI, xbool0, xbool1, xbn0, xbn1, xb_0, xb_1, reduceIte, one0, Option.isNone_none, ne_eq, not_true_eq_false, not_false_eq_true, if_true, if_false, ite_not, Bool.true_and, Bool.and_true]⟩
  | succ m ih =>
    intro k hk o5 o6
    obtain ⟨o4', o5', o6', e⟩ := ih (k + 1) (by omega) (some (vi (nI (4 * (6 * p + c) + k)))) (some (vi (nI (4 * (6 * l + c) + k))))
    refine ⟨o4', o5', o6', ?_⟩
    refine Eq.trans ?_ e
    rw [← ck3_s (by decide), bq_182_136, if_neg (show ¬ (Int32.ofInt 4 ≤ nI k) by rw [k_4, nI_leI (by omega) (by omega)]; omega)]
    simp (decide := true) (disch := omega) only [rq_182_142, Option.bind_some, xasI, xasL, xasR, xin_t, cond_true, cond_false, nI_clamp, k_0, k_1, k_2, k_3, k_4, k_5, k_6, k_40, k_60, k_500, k_10000, pk_mul, nI_add, nI_e0, nI_ee, nI_leI, nI_ltI, xbool0, xbool1, xbn0, xbn1, xb_0, xb_1, reduceIte, one0, Option.isNone_none, ne_eq, not_true_eq_false, not_false_eq_true, if_true, if_false, ite_not, Bool.true_and, Bool.and_true]
    rfl
theorem c_tk_e {T0 MI B l p : Nat} {M : xM} {R : Nat → RW} {S : Nat → List Int32} {K Z : Nat → KW} (hl : l < 1200) (hp : p < 240) : ∀ m c, c + m = 6 → ∀ (q : xrho) (o4 o5 o6 : Option xV), LXok q R S (cpZ K p (fun c => Z (6 * l + c)) c) Z → ∃ q', xZ T0 MI 182 105 [some (vr (some B)), some (vi (nI l)), some (vi (nI p)), some (vi (nI c)), o4, o5, o6] [] (rput B q M) = some (none, rput B q' M) ∧ fl2 q q' ∧ LXok q' R S (cpZ K p (fun c => Z (6 * l + c)) 6) Z := by
  intro m
  induction m with
  | zero =>
    intro c hc q o4 o5 o6 h
    have : c = 6 := by omega
    subst this
    exact ⟨q, by simp (decide := true) (disch := omega) only [bq_182_105, bq_182_222, Option.bind_some, xasI, xasL, xasR, xin_t, cond_true, cond_false, nI_clamp, k_0, k_1, k_2, k_3, k_4, k_5, k_6, k_40, k_60, k_500, k_10000, pk_mul, nI_add, nI_e0, nI_ee, nI_leI, nI_ltI, xbool0, xbool1, xbn0, xbn1, xb_0, xb_1, reduceIte, one0, Option.isNone_none, ne_eq, not_true_eq_false, not_false_eq_true, if_true, if_false, ite_not, Bool.true_and, Bool.and_true], fl2_rf q, h⟩
  | succ m ih =>
    intro c hc q o4 o5 o6 h
    have hs : PKw (q.1 78 (6 * l + c)) (q.1 79) (q.1 80) (q.2 81) (6 * l + c) (Z (6 * l + c)) := PL_w.mp (h.2 (6 * l + c) (by omega))
    obtain ⟨l1, f1⟩ := LX_k (l := p) (c := c) h hs
    rw [show va_up (cpZ K p (fun c => Z (6 * l + c)) c) (6 * p + c) (Z (6 * l + c)) = cpZ K p (fun c => Z (6 * l + c)) (c + 1) from cpZ_s K p (fun c => Z (6 * l + c)) c] at l1
    obtain ⟨o4', o5', o6', e⟩ := c_tk_i (T0 := T0) (MI := MI) (B := B) (M := M) (q := rup q 34 (6 * p + c) (q.1 78 (6 * l + c))) hl hp (c := c) (by omega) 4 0 (by omega) o5 o6
    rw [ck3_0] at e
    obtain ⟨q', e2, f2, l2⟩ := ih (c + 1) (by omega) _ o4' o5' o6' l1
    refine ⟨q', ?_, fl2_tr f1 f2, l2⟩
    rw [← e2]
    refine Eq.trans ?_ e
    simp (decide := true) (disch := omega) only [bq_182_105, rq_182_111, Option.bind_some, xasI, xasL, xasR, xin_t, cond_true, cond_false, nI_clamp, k_0, k_1, k_2, k_3, k_4, k_5, k_6, k_40, k_60, k_500, k_10000, pk_mul, nI_add, nI_e0, nI_ee, nI_leI, nI_ltI, xbool0, xbool1, xbn0, xbn1, xb_0, xb_1, reduceIte, one0, Option.isNone_none, ne_eq, not_true_eq_false, not_false_eq_true, if_true, if_false, ite_not, Bool.true_and, Bool.and_true]
    rw [if_neg (by omega)]
def tkP (R : RW) (x : Int32 × Int32 × Int64) : RW := if x.2.1 = 0 then dropK Prod.fst x.1 R else putA R (x.1, x.2.2)
theorem tkP_d {R : RW} {a b : Int32} {c : Int64} (h : b = 0) : tkP R (a, b, c) = dropK Prod.fst a R := by unfold tkP; rw [if_pos h]
theorem tkP_p {R : RW} {a b : Int32} {c : Int64} (h : b ≠ 0) : tkP R (a, b, c) = (putL R a c).2 := by unfold tkP; rw [if_neg h]; rfl
theorem parcV_c {q q' : xrho} {l n : Nat} (h : flat q q') : parcV q' l n = parcV q l n := by
  unfold parcV
  rw [h.1 74 (by decide) (by decide) (by decide) (by decide) (by decide) (by decide) (by decide), h.1 76 (by decide) (by decide) (by decide) (by decide) (by decide) (by decide) (by decide), h.2 77 (by decide) (by decide)]
theorem c_tk_r {T0 MI B l p n : Nat} {M : xM} {R : Nat → RW} {S : Nat → List Int32} {K : Nat → KW} {o5 o6 : Option xV} (hl : l < 1200) (hp : p < 240) (hn : n ≤ 3) (q0 : xrho) (h69 : q0.1 69 l = nI n) : ∀ m k, k + m = n → ∀ (q : xrho) (o4 : Option xV), flat q0 q → LAok q (va_up R p (((parcV q0 l n).take k).foldl tkP (R p))) S K → ∃ q' o4', xZ T0 MI 182 12 [some (vr (some B)), some (vi (nI l)), some (vi (nI p)), some (vi (nI k)), o4, o5, o6] [] (rput B q M) = xZ T0 MI 182 86 [some (vr (some B)), some (vi (nI l)), some (vi (nI p)), some (vi (nI n)), o4', o5, o6] [] (rput B q' M) ∧ flat q0 q' ∧ LAok q' (va_up R p ((parcV q0 l n).foldl tkP (R p))) S K := by
  have hlen : (parcV q0 l n).length = n := win_len _ _ _
  intro m
  induction m with
  | zero =>
    intro k hk q o4 hf h
    have e69 : q.1 69 l = nI n := by rw [hf.1 69 (by decide) (by decide) (by decide) (by decide) (by decide) (by decide) (by decide)]; exact h69
    have : k = n := by omega
    subst this
    refine ⟨q, o4, ?_, hf, ?_⟩
    · simp (decide := true) (disch := omega) only [rq_182_12, Option.bind_some, xasI, xasL, xasR, xin_t, cond_true, cond_false, nI_clamp, k_0, k_1, k_2, k_3, k_4, k_5, k_6, k_40, k_60, k_500, k_10000, pk_mul, nI_add, nI_e0, nI_ee, nI_leI, nI_ltI, xbool0, xbool1, xbn0, xbn1, xb_0, xb_1, reduceIte, one0, Option.isNone_none, ne_eq, not_true_eq_false, not_false_eq_true, if_true, if_false, ite_not, Bool.true_and, Bool.and_true, e69]
      rw [if_pos (Nat.le_refl _)]
    · rw [List.take_of_length_le (by omega)] at h
      exact h
  | succ m ih =>
    intro k hk q o4 hf h
    have e69 : q.1 69 l = nI n := by rw [hf.1 69 (by decide) (by decide) (by decide) (by decide) (by decide) (by decide) (by decide)]; exact h69
    have e74 := congrFun (hf.1 74 (by decide) (by decide) (by decide) (by decide) (by decide) (by decide) (by decide)) (3 * l + k)
    have e76 := congrFun (hf.1 76 (by decide) (by decide) (by decide) (by decide) (by decide) (by decide) (by decide)) (3 * l + k)
    have e77 := congrFun (hf.2 77 (by decide) (by decide)) (3 * l + k)
    have hel : (parcV q0 l n)[k]'(by omega) = (q0.1 74 (3 * l + k), q0.1 76 (3 * l + k), q0.2 77 (3 * l + k)) := by
      have e1 : (parcV q0 l n)[k]? = some (q0.1 74 (3 * l + k), q0.1 76 (3 * l + k), q0.2 77 (3 * l + k)) := win_get (by omega)
      rw [List.getElem?_eq_getElem (by omega)] at e1
      exact Option.some.inj e1
    have hT : ((parcV q0 l n).take (k + 1)).foldl tkP (R p) = tkP (((parcV q0 l n).take k).foldl tkP (R p)) (q0.1 74 (3 * l + k), q0.1 76 (3 * l + k), q0.2 77 (3 * l + k)) := by
      rw [take_s _ (by omega), List.foldl_append, hel]
      rfl
    have hP := h.1 p hp
    have st : xZ T0 MI 182 12 [some (vr (some B)), some (vi (nI l)), some (vi (nI p)), some (vi (nI k)), o4, o5, o6] [] (rput B q M) = if q0.1 76 (3 * l + k) = 0 then xZ T0 MI 182 35 [some (vr (some B)), some (vi (nI l)), some (vi (nI p)), some (vi (nI k)), o4, o5, o6] [] (rput B q M) else xZ T0 MI 182 53 [some (vr (some B)), some (vi (nI l)), some (vi (nI p)), some (vi (nI k)), o4, o5, o6] [] (rput B q M) := by
      simp (decide := true) (disch := omega) only [rq_182_12, Option.bind_some, xasI, xasL, xasR, xin_t, cond_true, cond_false, nI_clamp, k_0, k_1, k_2, k_3, k_4, k_5, k_6, k_40, k_60, k_500, k_10000, pk_mul, nI_add, nI_e0, nI_ee, nI_leI, nI_ltI, xbool0, xbool1, xbn0, xbn1, xb_0, xb_1, reduceIte, one0, Option.isNone_none, ne_eq, not_true_eq_false, not_false_eq_true, if_true, if_false, ite_not, Bool.true_and, Bool.and_true, e69]
      rw [if_neg (by omega)]
      simp (decide := true) (disch := omega) only [rq_182_22, Option.bind_some, xasI, xasL, xasR, xin_t, cond_true, cond_false, nI_clamp, k_0, k_1, k_2, k_3, k_4, k_5, k_6, k_40, k_60, k_500, k_10000, pk_mul, nI_add, nI_e0, nI_ee, nI_leI, nI_ltI, xbool0, xbool1, xbn0, xbn1, xb_0, xb_1, reduceIte, one0, Option.isNone_none, ne_eq, not_true_eq_false, not_false_eq_true, if_true, if_false, ite_not, Bool.true_and, Bool.and_true, e76]
    rw [st]
    by_cases a1 : q0.1 76 (3 * l + k) = 0
    · rw [tkP_d a1] at hT
      rw [if_pos a1]
      obtain ⟨f1, l1⟩ := gstrike_LA (key := q0.1 74 (3 * l + k)) h hp
      obtain ⟨q', o4', e, f, l2⟩ := ih (k + 1) (by omega) _ o4 (flat_tr hf f1) (by
        rw [hT]
        rw [va_up_self, va_up_up] at l1
        rw [va_up_self]
        exact l1)
      refine ⟨q', o4', ?_, f, l2⟩
      rw [← e]
      simp (decide := true) (disch := omega) only [rq_182_35, Option.bind_some, xasI, xasL, xasR, xin_t, cond_true, cond_false, nI_clamp, k_0, k_1, k_2, k_3, k_4, k_5, k_6, k_40, k_60, k_500, k_10000, pk_mul, nI_add, nI_e0, nI_ee, nI_leI, nI_ltI, xbool0, xbool1, xbn0, xbn1, xb_0, xb_1, reduceIte, one0, Option.isNone_none, ne_eq, not_true_eq_false, not_false_eq_true, if_true, if_false, ite_not, Bool.true_and, Bool.and_true, e74]
      rw [c_strike hp hP.2.1 hP.1]
      simp (decide := true) (disch := omega) only [bq_182_50, bq_182_80, Option.bind_some, xasI, xasL, xasR, xin_t, cond_true, cond_false, nI_clamp, k_0, k_1, k_2, k_3, k_4, k_5, k_6, k_40, k_60, k_500, k_10000, pk_mul, nI_add, nI_e0, nI_ee, nI_leI, nI_ltI, xbool0, xbool1, xbn0, xbn1, xb_0, xb_1, reduceIte, one0, Option.isNone_none, ne_eq, not_true_eq_false, not_false_eq_true, if_true, if_false, ite_not, Bool.true_and, Bool.and_true]
    · rw [tkP_p a1] at hT
      rw [if_neg a1]
      obtain ⟨f1, l1, -⟩ := glay_LA (key := q0.1 74 (3 * l + k)) (v := q0.2 77 (3 * l + k)) h hp
      obtain ⟨q', o4', e, f, l2⟩ := ih (k + 1) (by omega) _ (some (vi (zI (glay q p ((va_up R p (((parcV q0 l n).take k).foldl tkP (R p))) p).length (q0.1 74 (3 * l + k)) (q0.2 77 (3 * l + k))).1))) (flat_tr hf f1) (by
        rw [hT]
        rw [va_up_self, va_up_up] at l1
        rw [va_up_self]
        exact l1)
      refine ⟨q', o4', ?_, f, l2⟩
      rw [← e]
      simp (decide := true) (disch := omega) only [rq_182_53, Option.bind_some, xasI, xasL, xasR, xin_t, cond_true, cond_false, nI_clamp, k_0, k_1, k_2, k_3, k_4, k_5, k_6, k_40, k_60, k_500, k_10000, pk_mul, nI_add, nI_e0, nI_ee, nI_leI, nI_ltI, xbool0, xbool1, xbn0, xbn1, xb_0, xb_1, reduceIte, one0, Option.isNone_none, ne_eq, not_true_eq_false, not_false_eq_true, if_true, if_false, ite_not, Bool.true_and, Bool.and_true, e74, e77]
      rw [c_lay hp hP.2.1 hP.1]
      simp (decide := true) (disch := omega) only [bq_182_78, bq_182_80, Option.bind_some, xasI, xasL, xasR, xin_t, cond_true, cond_false, nI_clamp, k_0, k_1, k_2, k_3, k_4, k_5, k_6, k_40, k_60, k_500, k_10000, pk_mul, nI_add, nI_e0, nI_ee, nI_leI, nI_ltI, xbool0, xbool1, xbn0, xbn1, xb_0, xb_1, reduceIte, one0, Option.isNone_none, ne_eq, not_true_eq_false, not_false_eq_true, if_true, if_false, ite_not, Bool.true_and, Bool.and_true]
def atkp (q : xrho) (L : xLs) (l p : Nat) : xrho × xLs := if q.1 69 l < 0 then (rup (rup q 23 p (q.1 23 p + nI 1)) 15 p (nI 5), L.1, L.2.1, cpZ L.2.2.1 p (fun c => L.2.2.2 (6 * l + c)) 6, L.2.2.2) else (rup q 23 p (q.1 23 p + nI 1), va_up L.1 p ((parcV q l (nu q 69 l)).foldl tkP (L.1 p)), L.2.1, L.2.2.1, L.2.2.2)
theorem c_takesPart {T0 MI B l p : Nat} {q : xrho} {L : xLs} {M : xM} {o3 o4 o5 o6 : Option xV} (h0 : LX q L) (hl : l < 1200) (hp : p < 240) (h69 : q.1 69 l < 0 ∨ isN q 69 l 3) : ∃ q', xZ T0 MI 182 0 [some (vr (some B)), some (vi (nI l)), some (vi (nI p)), o3, o4, o5, o6] [] (rput B q M) = some (none, rput B q' M) ∧ fl2 (atkp q L l p).1 q' ∧ LX q' (atkp q L l p).2 := by
  unfold atkp
  by_cases a1 : q.1 69 l < 0
  · rw [if_pos a1]
    have l1 : LX (rup (rup q 23 p (q.1 23 p + nI 1)) 15 p (nI 5)) L := LX_up rfl (LX_up rfl h0)
    obtain ⟨q', e, f, l2⟩ := c_tk_e (T0 := T0) (MI := MI) (B := B) (M := M) (K := L.2.2.1) (Z := L.2.2.2) hl hp 6 0 (by omega) _ o4 o5 o6 (by rw [cpZ_0]; exact l1)
    refine ⟨q', ?_, f, l2⟩
    rw [← e]
    have a2 : q.1 69 l ≤ nI 0 := by
      have := Int32.le_of_lt a1
      exact this
    simp (decide := true) (disch := omega) only [rq_182_0, rq_182_12, Option.bind_some, xasI, xasL, xasR, xin_t, cond_true, cond_false, nI_clamp, k_0, k_1, k_2, k_3, k_4, k_5, k_6, k_40, k_60, k_500, k_10000, pk_mul, nI_add, nI_e0, nI_ee, nI_leI, nI_ltI, xbool0, xbool1, xbn0, xbn1, xb_0, xb_1, reduceIte, one0, Option.isNone_none, ne_eq, not_true_eq_false, not_false_eq_true, if_true, if_false, ite_not, Bool.true_and, Bool.and_true, rup_ne]
    rw [if_pos a2]
    simp (decide := true) (disch := omega) only [rq_182_86, Option.bind_some, xasI, xasL, xasR, xin_t, cond_true, cond_false, nI_clamp, k_0, k_1, k_2, k_3, k_4, k_5, k_6, k_40, k_60, k_500, k_10000, pk_mul, nI_add, nI_e0, nI_ee, nI_leI, nI_ltI, xbool0, xbool1, xbn0, xbn1, xb_0, xb_1, reduceIte, one0, Option.isNone_none, ne_eq, not_true_eq_false, not_false_eq_true, if_true, if_false, ite_not, Bool.true_and, Bool.and_true, rup_ne]
    rw [if_pos a1]
    simp (decide := true) (disch := omega) only [rq_182_96, Option.bind_some, xasI, xasL, xasR, xin_t, cond_true, cond_false, nI_clamp, k_0, k_1, k_2, k_3, k_4, k_5, k_6, k_40, k_60, k_500, k_10000, pk_mul, nI_add, nI_e0, nI_ee, nI_leI, nI_ltI, xbool0, xbool1, xbn0, xbn1, xb_0, xb_1, reduceIte, one0, Option.isNone_none, ne_eq, not_true_eq_false, not_false_eq_true, if_true, if_false, ite_not, Bool.true_and, Bool.and_true]
  · rw [if_neg a1]
    have h69 : isN q 69 l 3 := h69.elim (fun h => absurd h a1) id
    have l1 : LX (rup q 23 p (q.1 23 p + nI 1)) L := LX_up rfl h0
    obtain ⟨q', o4', e, f, l2⟩ := c_tk_r (T0 := T0) (MI := MI) (B := B) (M := M) (R := L.1) (S := L.2.1) (K := L.2.2.1) (o5 := o5) (o6 := o6) hl hp h69.2 (rup q 23 p (q.1 23 p + nI 1)) h69.1 (nu q 69 l) 0 (by omega) _ o4 (flat_rf _) (by
      rw [List.take_zero, List.foldl_nil, va_up_id]
      exact l1.1)
    refine ⟨q', ?_, fl2_of f, LX_of l1 f l2⟩
    have e69 : q'.1 69 l = q.1 69 l := by
      rw [f.1 69 (by decide) (by decide) (by decide) (by decide) (by decide) (by decide) (by decide)]
      rfl
    simp (decide := true) (disch := omega) only [rq_182_0, Option.bind_some, xasI, xasL, xasR, xin_t, cond_true, cond_false, nI_clamp, k_0, k_1, k_2, k_3, k_4, k_5, k_6, k_40, k_60, k_500, k_10000, pk_mul, nI_add, nI_e0, nI_ee, nI_leI, nI_ltI, xbool0, xbool1, xbn0, xbn1, xb_0, xb_1, reduceIte, one0, Option.isNone_none, ne_eq, not_true_eq_false, not_false_eq_true, if_true, if_false, ite_not, Bool.true_and, Bool.and_true]
    rw [e]
    simp (decide := true) (disch := omega) only [rq_182_86, Option.bind_some, xasI, xasL, xasR, xin_t, cond_true, cond_false, nI_clamp, k_0, k_1, k_2, k_3, k_4, k_5, k_6, k_40, k_60, k_500, k_10000, pk_mul, nI_add, nI_e0, nI_ee, nI_leI, nI_ltI, xbool0, xbool1, xbn0, xbn1, xb_0, xb_1, reduceIte, one0, Option.isNone_none, ne_eq, not_true_eq_false, not_false_eq_true, if_true, if_false, ite_not, Bool.true_and, Bool.and_true, e69]
    rw [if_neg a1, bq_182_95]
/-! parted -/
def gtook (q : xrho) (n l h r : Nat) (m : Int32) : xrho := rup (rup (gnew q n (nI 5) (q.1 62 l) (nI h) (nI r) (q.1 64 l)) 67 n (q.1 67 l)) 68 n m
def gpaq (q : xrho) (l p : Nat) : xrho := rup (rup (rup (rup (rup (rup (rup (rup q 15 p (nI 4)) 18 p (q.1 64 l)) 16 p (q.1 70 l)) 17 p (q.1 71 l)) 22 p (q.1 67 l)) 23 p (nI 0)) 30 p (q.1 64 l)) 31 p (q.1 67 l)
abbrev gsame (q : xrho) (l p : Nat) : Prop := q.1 15 p = nI 4 ∧ q.1 18 p = q.1 64 l ∧ q.1 22 p = q.1 67 l ∧ ¬ q.1 23 p < q.1 68 l
abbrev gready (q : xrho) (l p : Nat) : Prop := q.1 15 p = nI 5 ∧ q.1 18 p = q.1 64 l
def withT (x : xrho × xLs) (n l h r : Nat) (m : Int32) : xrho × xLs := (gtook x.1 n l h r m, x.2)
noncomputable def aparted (q : xrho) (L : xLs) (l h r : Nat) : xrho × xLs :=
  let p := 40 * h + r
  if tI (ganew q l p) = 1 then withT (atkp (gpaq q l p) (va_up L.1 p [], L.2.1, clrK L.2.2.1 p, L.2.2.2) l p) (nu q 82 0) l h r (q.1 68 l)
  else if gsame q l p then withT (if q.1 68 l = q.1 23 p then atkp q L l p else (q, L)) (nu q 82 0) l h r (q.1 68 l)
  else if gready q l p then withT (q, L) (nu q 82 0) l h r (q.1 68 l)
  else if q.1 15 p = 0 then withT (q, L) (nu q 82 0) l h r (Int32.ofInt (-1))
  else (q, L)
theorem gtook_LX {q : xrho} {L : xLs} {n l h r : Nat} {m : Int32} (h0 : LX q L) : LX (gtook q n l h r m) L := LX_up rfl (LX_up rfl (gnew_LX h0))
theorem fl2_took {q z : xrho} (h0 : fl2 z q) (n l h r : Nat) (m : Int32) : fl2 (gtook z n l h r m) (gtook q n l h r m) := by
  unfold gtook
  rw [h0.1 62 rfl, h0.1 64 rfl, h0.1 67 rfl]
  exact fl2_up (fl2_up (fl2_new h0 _ _ _ _ _ _) _ _ _) _ _ _
theorem c_pt_t {T0 MI B l h r n : Nat} {q : xrho} {M : xM} {m x6 : Int32} {o4 o7 o8 o9 o10 : Option xV} (hl : l < n) (hn : n < 1200) (hh : h < 6) (hr : r < 40) (h82 : q.1 82 0 = nI n) (h6 : q.1 64 l = x6) : xZ T0 MI 181 291 [some (vr (some B)), some (vi (nI l)), some (vi (nI h)), some (vi (nI r)), o4, some (vi m), some (vi x6), o7, o8, o9, o10] [] (rput B q M) = some (none, rput B (gtook q n l h r m) M) := by
  subst h6
  simp (decide := true) (disch := omega) only [rq_181_291, Option.bind_some, xasI, xasL, xasR, xin_t, cond_true, cond_false, nI_clamp, k_0, k_1, k_2, k_3, k_4, k_5, k_6, k_40, k_60, k_500, k_10000, pk_mul, nI_add, nI_e0, nI_ee, nI_leI, nI_ltI, xbool0, xbool1, xbn0, xbn1, xb_0, xb_1, reduceIte, one0, Option.isNone_none, ne_eq, not_true_eq_false, not_false_eq_true, if_true, if_false, ite_not, Bool.true_and, Bool.and_true]
  rw [c_newLetter hn h82]
  have e : (gnew q n (nI 5) (q.1 62 l) (nI h) (nI r) (q.1 64 l)).1 67 l = q.1 67 l := by
    unfold gnew
    rw [rup_ne _ _ _ _ (by decide), rup_ne _ _ _ _ (by decide), rup_ne _ _ _ _ (by decide), rup_nx _ _ _ _ (by omega)]
    rfl
  simp (decide := true) (disch := omega) only [rq_181_306, Option.bind_some, xasI, xasL, xasR, xin_t, cond_true, cond_false, nI_clamp, k_0, k_1, k_2, k_3, k_4, k_5, k_6, k_40, k_60, k_500, k_10000, pk_mul, nI_add, nI_e0, nI_ee, nI_leI, nI_ltI, xbool0, xbool1, xbn0, xbn1, xb_0, xb_1, reduceIte, one0, Option.isNone_none, ne_eq, not_true_eq_false, not_false_eq_true, if_true, if_false, ite_not, Bool.true_and, Bool.and_true, e]
  rfl
theorem atkp_f {q : xrho} {L : xLs} {l p f : Nat} (h1 : f ≠ 23) (h2 : f ≠ 15) : (atkp q L l p).1.1 f = q.1 f := by
  unfold atkp
  split
  · rw [rup_ne _ _ _ _ h2, rup_ne _ _ _ _ h1]
  · rw [rup_ne _ _ _ _ h1]
theorem c_parted {T0 MI B l h r : Nat} {q : xrho} {L : xLs} {M : xM} {o5 o6 o7 o8 o9 o10 : Option xV} (h0 : LX q L) (hl : l < nu q 82 0) (hh : h < 6) (hr : r < 40) (h82 : isN q 82 0 1199) (h69 : q.1 69 l < 0 ∨ isN q 69 l 3) : ∃ q', xZ T0 MI 181 0 [some (vr (some B)), some (vi (nI l)), some (vi (nI h)), some (vi (nI r)), some (vi (nI (40 * h + r))), o5, o6, o7, o8, o9, o10] [] (rput B q M) = some (none, rput B q' M) ∧ fl2 (aparted q L l h r).1 q' ∧ LX q' (aparted q L l h r).2 := by
  have b82 := h82.2
  have hp : 40 * h + r < 240 := by omega
  unfold aparted
  dsimp only
  simp (decide := true) (disch := omega) only [rq_181_0, Option.bind_some, xasI, xasL, xasR, xin_t, cond_true, cond_false, nI_clamp, k_0, k_1, k_2, k_3, k_4, k_5, k_6, k_40, k_60, k_500, k_10000, pk_mul, nI_add, nI_e0, nI_ee, nI_leI, nI_ltI, xbool0, xbool1, xbn0, xbn1, xb_0, xb_1, reduceIte, one0, Option.isNone_none, ne_eq, not_true_eq_false, not_false_eq_true, if_true, if_false, ite_not, Bool.true_and, Bool.and_true]
  rw [c_isAnew (by omega) hp]
  -- same, ready
  have sSame : ∀ (x : Int32), xZ T0 MI 181 23 [some (vr (some B)), some (vi (nI l)), some (vi (nI h)), some (vi (nI r)), some (vi (nI (40 * h + r))), some (vi (q.1 68 l)), some (vi (q.1 64 l)), o7, o8, o9, o10] [vi x] (rput B q M) = xZ T0 MI 181 81 [some (vr (some B)), some (vi (nI l)), some (vi (nI h)), some (vi (nI r)), some (vi (nI (40 * h + r))), some (vi (q.1 68 l)), some (vi (q.1 64 l)), some (vi x), o8, o9, o10] [vi (tI (gsame q l (40 * h + r)))] (rput B q M) := by
    intro x
    have no : ¬ gsame q l (40 * h + r) → xZ T0 MI 181 80 [some (vr (some B)), some (vi (nI l)), some (vi (nI h)), some (vi (nI r)), some (vi (nI (40 * h + r))), some (vi (q.1 68 l)), some (vi (q.1 64 l)), some (vi x), o8, o9, o10] [] (rput B q M) = xZ T0 MI 181 81 [some (vr (some B)), some (vi (nI l)), some (vi (nI h)), some (vi (nI r)), some (vi (nI (40 * h + r))), some (vi (q.1 68 l)), some (vi (q.1 64 l)), some (vi x), o8, o9, o10] [vi (tI (gsame q l (40 * h + r)))] (rput B q M) := fun hs => by rw [bq_181_80, tI_f hs]; rfl
    simp (decide := true) (disch := omega) only [rq_181_23, Option.bind_some, xasI, xasL, xasR, xin_t, cond_true, cond_false, nI_clamp, k_0, k_1, k_2, k_3, k_4, k_5, k_6, k_40, k_60, k_500, k_10000, pk_mul, nI_add, nI_e0, nI_ee, nI_leI, nI_ltI, xbool0, xbool1, xbn0, xbn1, xb_0, xb_1, reduceIte, one0, Option.isNone_none, ne_eq, not_true_eq_false, not_false_eq_true, if_true, if_false, ite_not, Bool.true_and, Bool.and_true]
    by_cases a1 : q.1 15 (40 * h + r) = nI 4
    · rw [if_pos a1]
      simp (decide := true) (disch := omega) only [rq_181_36, Option.bind_some, xasI, xasL, xasR, xin_t, cond_true, cond_false, nI_clamp, k_0, k_1, k_2, k_3, k_4, k_5, k_6, k_40, k_60, k_500, k_10000, pk_mul, nI_add, nI_e0, nI_ee, nI_leI, nI_ltI, xbool0, xbool1, xbn0, xbn1, xb_0, xb_1, reduceIte, one0, Option.isNone_none, ne_eq, not_true_eq_false, not_false_eq_true, if_true, if_false, ite_not, Bool.true_and, Bool.and_true]
      by_cases a2 : q.1 18 (40 * h + r) = q.1 64 l
      · rw [if_pos a2]
        simp (decide := true) (disch := omega) only [rq_181_48, Option.bind_some, xasI, xasL, xasR, xin_t, cond_true, cond_false, nI_clamp, k_0, k_1, k_2, k_3, k_4, k_5, k_6, k_40, k_60, k_500, k_10000, pk_mul, nI_add, nI_e0, nI_ee, nI_leI, nI_ltI, xbool0, xbool1, xbn0, xbn1, xb_0, xb_1, reduceIte, one0, Option.isNone_none, ne_eq, not_true_eq_false, not_false_eq_true, if_true, if_false, ite_not, Bool.true_and, Bool.and_true]
        by_cases a3 : q.1 22 (40 * h + r) = q.1 67 l
        · rw [if_pos a3]
          simp (decide := true) (disch := omega) only [rq_181_64, Option.bind_some, xasI, xasL, xasR, xin_t, cond_true, cond_false, nI_clamp, k_0, k_1, k_2, k_3, k_4, k_5, k_6, k_40, k_60, k_500, k_10000, pk_mul, nI_add, nI_e0, nI_ee, nI_leI, nI_ltI, xbool0, xbool1, xbn0, xbn1, xb_0, xb_1, reduceIte, one0, Option.isNone_none, ne_eq, not_true_eq_false, not_false_eq_true, if_true, if_false, ite_not, Bool.true_and, Bool.and_true]
          by_cases a4 : q.1 23 (40 * h + r) < q.1 68 l
          · rw [if_pos a4, no (fun h => h.2.2.2 a4)]
          · rw [if_neg a4, bq_181_76, tI_t ⟨a1, a2, a3, a4⟩]
            rfl
        · rw [if_neg a3, no (fun h => a3 h.2.2.1)]
      · rw [if_neg a2, no (fun h => a2 h.2.1)]
    · rw [if_neg a1, no (fun h => a1 h.1)]
  have sReady : ∀ (x y : Int32), xZ T0 MI 181 81 [some (vr (some B)), some (vi (nI l)), some (vi (nI h)), some (vi (nI r)), some (vi (nI (40 * h + r))), some (vi (q.1 68 l)), some (vi (q.1 64 l)), some (vi x), o8, o9, o10] [vi y] (rput B q M) = xZ T0 MI 181 111 [some (vr (some B)), some (vi (nI l)), some (vi (nI h)), some (vi (nI r)), some (vi (nI (40 * h + r))), some (vi (q.1 68 l)), some (vi (q.1 64 l)), some (vi x), some (vi y), o9, o10] [vi (tI (gready q l (40 * h + r)))] (rput B q M) := by
    intro x y
    simp (decide := true) (disch := omega) only [rq_181_81, Option.bind_some, xasI, xasL, xasR, xin_t, cond_true, cond_false, nI_clamp, k_0, k_1, k_2, k_3, k_4, k_5, k_6, k_40, k_60, k_500, k_10000, pk_mul, nI_add, nI_e0, nI_ee, nI_leI, nI_ltI, xbool0, xbool1, xbn0, xbn1, xb_0, xb_1, reduceIte, one0, Option.isNone_none, ne_eq, not_true_eq_false, not_false_eq_true, if_true, if_false, ite_not, Bool.true_and, Bool.and_true]
    by_cases a1 : q.1 15 (40 * h + r) = nI 5
    · rw [if_pos a1]
      simp (decide := true) (disch := omega) only [rq_181_94, Option.bind_some, xasI, xasL, xasR, xin_t, cond_true, cond_false, nI_clamp, k_0, k_1, k_2, k_3, k_4, k_5, k_6, k_40, k_60, k_500, k_10000, pk_mul, nI_add, nI_e0, nI_ee, nI_leI, nI_ltI, xbool0, xbool1, xbn0, xbn1, xb_0, xb_1, reduceIte, one0, Option.isNone_none, ne_eq, not_true_eq_false, not_false_eq_true, if_true, if_false, ite_not, Bool.true_and, Bool.and_true]
      by_cases a2 : q.1 18 (40 * h + r) = q.1 64 l
      · rw [if_pos a2, bq_181_106, tI_t ⟨a1, a2⟩]
        rfl
      · rw [if_neg a2, bq_181_110, tI_f (fun h => a2 h.2)]
        rfl
    · rw [if_neg a1, bq_181_110, tI_f (fun h => a1 h.1)]
      rfl
  simp (decide := true) (disch := omega) only [Option.bind_some, xasI, xasL, xasR, xin_t, cond_true, cond_false, nI_clamp, k_0, k_1, k_2, k_3, k_4, k_5, k_6, k_40, k_60, k_500, k_10000, pk_mul, nI_add, nI_e0, nI_ee, nI_leI, nI_ltI, xbool0, xbool1, xbn0, xbn1, xb_0, xb_1, reduceIte, one0, Option.isNone_none, ne_eq, not_true_eq_false, not_false_eq_true, if_true, if_false, ite_not, Bool.true_and, Bool.and_true, sSame]
  rw [sReady, bq_181_111]
  by_cases a1 : ganew q l (40 * h + r)
  · -- anew
    rw [tI_t a1, if_neg (by decide), if_pos rfl, bq_181_139, if_neg (by decide), bq_181_157, if_neg (by decide)]
    have l1 : LX (nkS (rup (gpaq q l (40 * h + r)) 19 (40 * h + r) (nI 0)) (40 * h + r) 6) (va_up L.1 (40 * h + r) [], L.2.1, clrK L.2.2.1 (40 * h + r), L.2.2.2) := by
      have lq : LX (gpaq q l (40 * h + r)) L := LX_up rfl (LX_up rfl (LX_up rfl (LX_up rfl (LX_up rfl (LX_up rfl (LX_up rfl (LX_up rfl h0)))))))
      have l2 : LAok (rup (gpaq q l (40 * h + r)) 19 (40 * h + r) (nI 0)) (va_up L.1 (40 * h + r) []) L.2.1 L.2.2.1 := by
        refine ⟨fun p' hp' => ?_, fun p' hp' => PS_c (lq.1.2.1 p' hp') rfl (fun j _ => rfl), fun c hc => PK_c (lq.1.2.2 c hc) rfl (fun j _ => ⟨rfl, rfl, rfl⟩)⟩
        by_cases e : p' = 40 * h + r
        · subst e
          rw [va_up_self]
          refine ⟨by rw [rup_at]; rfl, by simp, ?_, by simp [srt]⟩
          unfold rowsV
          rw [nu_of (rup_at _ _ _ _) (by decide)]
          rfl
        · rw [va_up_ne _ _ e]
          exact PR_c (lq.1.1 p' hp') (by rw [rup_i, if_neg e]) (fun j _ => ⟨rfl, rfl⟩)
      obtain ⟨f3, l3⟩ := nkS_LA (p := 40 * h + r) l2
      refine LX_of lq (flat_tr ?_ f3) l3
      exact ⟨fun k a _ _ _ _ _ _ => rup_ne _ _ _ _ a, fun _ _ _ => rfl⟩
    have fz : fl2 (gpaq q l (40 * h + r)) (nkS (rup (gpaq q l (40 * h + r)) 19 (40 * h + r) (nI 0)) (40 * h + r) 6) := ⟨fun k hk => by
      show va_up (rup (gpaq q l (40 * h + r)) 19 (40 * h + r) (nI 0)).1 34 _ k = _
      rw [va_up_ne _ _ (nf_ne hk rfl), rup_ne _ _ _ _ (nf_ne hk rfl)], fun _ _ => rfl⟩
    generalize hz : nkS (rup (gpaq q l (40 * h + r)) 19 (40 * h + r) (nI 0)) (40 * h + r) 6 = z at l1 fz
    have z69 : z.1 69 = q.1 69 := fz.1 69 rfl
    obtain ⟨q', e, f, l2⟩ := c_takesPart (T0 := T0) (MI := MI) (B := B) (M := M) (o3 := none) (o4 := none) (o5 := none) (o6 := none) l1 (show l < 1200 by omega) hp (by unfold isN nu; rw [z69]; exact h69)
    have f2 : fl2 (atkp (gpaq q l (40 * h + r)) (va_up L.1 (40 * h + r) [], L.2.1, clrK L.2.2.1 (40 * h + r), L.2.2.2) l (40 * h + r)).1 q' ∧ (atkp (gpaq q l (40 * h + r)) (va_up L.1 (40 * h + r) [], L.2.1, clrK L.2.2.1 (40 * h + r), L.2.2.2) l (40 * h + r)).2 = (atkp z (va_up L.1 (40 * h + r) [], L.2.1, clrK L.2.2.1 (40 * h + r), L.2.2.2) l (40 * h + r)).2 := by
      unfold atkp at f ⊢
      have z23 : z.1 23 = (gpaq q l (40 * h + r)).1 23 := fz.1 23 rfl
      have pz : ∀ n, parcV z l n = parcV (gpaq q l (40 * h + r)) l n := fun n => by
        unfold parcV
        rw [fz.1 74 rfl, fz.1 76 rfl, fz.2 77 rfl]
      have nz : nu z 69 l = nu (gpaq q l (40 * h + r)) 69 l := nu_f fz rfl
      rw [z23, fz.1 69 rfl] at f
      rw [pz, nz, fz.1 69 rfl]
      by_cases a : (gpaq q l (40 * h + r)).1 69 l < 0
      · rw [if_pos a] at f
        rw [if_pos a, if_pos a]
        exact ⟨fl2_tr (fl2_up (fl2_up fz _ _ _) _ _ _) f, rfl⟩
      · rw [if_neg a] at f
        rw [if_neg a, if_neg a]
        exact ⟨fl2_tr (fl2_up fz _ _ _) f, rfl⟩
    rw [← f2.2] at l2
    have q82 : q'.1 82 0 = nI (nu q 82 0) := by
      rw [f2.1.1 82 rfl, atkp_f (by decide) (by decide)]
      exact h82.1
    have q64 : q'.1 64 l = q.1 64 l := by
      rw [f2.1.1 64 rfl, atkp_f (by decide) (by decide)]
      rfl
    refine ⟨gtook q' (nu q 82 0) l h r (q.1 68 l), ?_, fl2_took f2.1 _ _ _ _ _, gtook_LX l2⟩
    rw [rq_181_162]
    simp (decide := true) (disch := omega) only [Option.bind_some, xasI, xasL, xasR, xin_t, cond_true, cond_false, nI_clamp, k_0, k_1, k_2, k_3, k_4, k_5, k_6, k_40, k_60, k_500, k_10000, pk_mul, nI_add, nI_e0, nI_ee, nI_leI, nI_ltI, xbool0, xbool1, xbn0, xbn1, xb_0, xb_1, reduceIte, one0, Option.isNone_none, ne_eq, not_true_eq_false, not_false_eq_true, if_true, if_false, ite_not, Bool.true_and, Bool.and_true, rup_ne]
    have cm : rup (rup (rup (rup (rup (rup (rup (rup (rup q 15 (40 * h + r) (nI 4)) 18 (40 * h + r) (q.1 64 l)) 16 (40 * h + r) (q.1 70 l)) 17 (40 * h + r) (q.1 71 l)) 22 (40 * h + r) (q.1 67 l)) 23 (40 * h + r) (nI 0)) 19 (40 * h + r) (nI 0)) 30 (40 * h + r) (q.1 64 l)) 31 (40 * h + r) (q.1 67 l) = rup (gpaq q l (40 * h + r)) 19 (40 * h + r) (nI 0) := by
      refine xr_ext (fun f x => ?_) (fun _ _ => rfl)
      unfold gpaq
      rw [rup_r, rup_r, rup_r]
      rw [rup_r _ 19, rup_r _ 31, rup_r _ 30]
      by_cases e19 : f = 19 ∧ x = 40 * h + r
      · rw [if_neg (by omega), if_neg (by omega), if_pos e19, if_pos e19]
      · rw [if_neg e19, if_neg e19]
    rw [cm, c_nothingKept hp, hz]
    have z68 : q.1 68 l = z.1 23 (40 * h + r) := by
      rw [fz.1 23 rfl, a1.2.1]
      show _ = (rup (rup (rup (rup (rup (rup q 15 (40 * h + r) (nI 4)) 18 (40 * h + r) (q.1 64 l)) 16 (40 * h + r) (q.1 70 l)) 17 (40 * h + r) (q.1 71 l)) 22 (40 * h + r) (q.1 67 l)) 23 (40 * h + r) (nI 0)).1 23 (40 * h + r)
      rw [rup_at]
      rfl
    simp (decide := true) (disch := omega) only [Option.bind_some, xasI, xasL, xasR, xin_t, cond_true, cond_false, nI_clamp, k_0, k_1, k_2, k_3, k_4, k_5, k_6, k_40, k_60, k_500, k_10000, pk_mul, nI_add, nI_e0, nI_ee, nI_leI, nI_ltI, xbool0, xbool1, xbn0, xbn1, xb_0, xb_1, reduceIte, one0, Option.isNone_none, ne_eq, not_true_eq_false, not_false_eq_true, if_true, if_false, ite_not, Bool.true_and, Bool.and_true]
    rw [bq_181_262, if_neg (by decide)]
    simp (decide := true) (disch := omega) only [rq_181_272, Option.bind_some, xasI, xasL, xasR, xin_t, cond_true, cond_false, nI_clamp, k_0, k_1, k_2, k_3, k_4, k_5, k_6, k_40, k_60, k_500, k_10000, pk_mul, nI_add, nI_e0, nI_ee, nI_leI, nI_ltI, xbool0, xbool1, xbn0, xbn1, xb_0, xb_1, reduceIte, one0, Option.isNone_none, ne_eq, not_true_eq_false, not_false_eq_true, if_true, if_false, ite_not, Bool.true_and, Bool.and_true]
    rw [if_pos z68, rq_181_284, e]
    simp (decide := true) (disch := omega) only [Option.bind_some, xasI, xasL, xasR, xin_t, cond_true, cond_false, nI_clamp, k_0, k_1, k_2, k_3, k_4, k_5, k_6, k_40, k_60, k_500, k_10000, pk_mul, nI_add, nI_e0, nI_ee, nI_leI, nI_ltI, xbool0, xbool1, xbn0, xbn1, xb_0, xb_1, reduceIte, one0, Option.isNone_none, ne_eq, not_true_eq_false, not_false_eq_true, if_true, if_false, ite_not, Bool.true_and, Bool.and_true]
    rw [c_pt_t hl (by omega) hh hr q82 q64]
  · rw [tI_f a1, if_pos rfl, if_neg (show ¬ (0 : Int32) = 1 by decide), bq_181_118]
    -- behind 262, no row taken
    have tail : ∀ (m : Int32) (o9 o10 : Option xV), xZ T0 MI 181 291 [some (vr (some B)), some (vi (nI l)), some (vi (nI h)), some (vi (nI r)), some (vi (nI (40 * h + r))), some (vi m), some (vi (q.1 64 l)), some (vi 0), some (vi 0), o9, o10] [] (rput B q M) = some (none, rput B (gtook q (nu q 82 0) l h r m) M) := fun m o9 o10 => c_pt_t hl (by omega) hh hr h82.1 rfl
    by_cases a2 : gsame q l (40 * h + r)
    · rw [tI_t a2, if_neg (by decide), if_pos a2, bq_181_139, if_pos rfl]
      have n0 : ¬ q.1 15 (40 * h + r) = 0 := by rw [a2.1]; decide
      simp (decide := true) (disch := omega) only [rq_181_144, Option.bind_some, xasI, xasL, xasR, xin_t, cond_true, cond_false, nI_clamp, k_0, k_1, k_2, k_3, k_4, k_5, k_6, k_40, k_60, k_500, k_10000, pk_mul, nI_add, nI_e0, nI_ee, nI_leI, nI_ltI, xbool0, xbool1, xbn0, xbn1, xb_0, xb_1, reduceIte, one0, Option.isNone_none, ne_eq, not_true_eq_false, not_false_eq_true, if_true, if_false, ite_not, Bool.true_and, Bool.and_true]
      rw [if_neg n0, bq_181_157, if_pos rfl, bq_181_262, if_pos rfl, bq_181_267, if_neg (by decide)]
      simp (decide := true) (disch := omega) only [rq_181_272, Option.bind_some, xasI, xasL, xasR, xin_t, cond_true, cond_false, nI_clamp, k_0, k_1, k_2, k_3, k_4, k_5, k_6, k_40, k_60, k_500, k_10000, pk_mul, nI_add, nI_e0, nI_ee, nI_leI, nI_ltI, xbool0, xbool1, xbn0, xbn1, xb_0, xb_1, reduceIte, one0, Option.isNone_none, ne_eq, not_true_eq_false, not_false_eq_true, if_true, if_false, ite_not, Bool.true_and, Bool.and_true]
      by_cases a3 : q.1 68 l = q.1 23 (40 * h + r)
      · rw [if_pos a3, if_pos a3]
        obtain ⟨q', e, f, l2⟩ := c_takesPart (T0 := T0) (MI := MI) (B := B) (M := M) (o3 := none) (o4 := none) (o5 := none) (o6 := none) h0 (show l < 1200 by omega) hp h69
        have q82 : q'.1 82 0 = nI (nu q 82 0) := by
          rw [f.1 82 rfl, atkp_f (by decide) (by decide)]
          exact h82.1
        have q64 : q'.1 64 l = q.1 64 l := by
          rw [f.1 64 rfl, atkp_f (by decide) (by decide)]
        refine ⟨gtook q' (nu q 82 0) l h r (q.1 68 l), ?_, fl2_took f _ _ _ _ _, gtook_LX l2⟩
        rw [rq_181_284, e]
        simp (decide := true) (disch := omega) only [Option.bind_some, xasI, xasL, xasR, xin_t, cond_true, cond_false, nI_clamp, k_0, k_1, k_2, k_3, k_4, k_5, k_6, k_40, k_60, k_500, k_10000, pk_mul, nI_add, nI_e0, nI_ee, nI_leI, nI_ltI, xbool0, xbool1, xbn0, xbn1, xb_0, xb_1, reduceIte, one0, Option.isNone_none, ne_eq, not_true_eq_false, not_false_eq_true, if_true, if_false, ite_not, Bool.true_and, Bool.and_true]
        rw [c_pt_t hl (by omega) hh hr q82 q64]
      · rw [if_neg a3, if_neg a3]
        exact ⟨_, c_pt_t hl (by omega) hh hr h82.1 rfl, fl2_rf _, gtook_LX h0⟩
    · rw [tI_f a2, if_pos rfl, if_neg a2, bq_181_123]
      by_cases a3 : gready q l (40 * h + r)
      · rw [tI_t a3, if_neg (by decide), if_pos a3, bq_181_139, if_pos rfl]
        have n0 : ¬ q.1 15 (40 * h + r) = 0 := by rw [a3.1]; decide
        simp (decide := true) (disch := omega) only [rq_181_144, Option.bind_some, xasI, xasL, xasR, xin_t, cond_true, cond_false, nI_clamp, k_0, k_1, k_2, k_3, k_4, k_5, k_6, k_40, k_60, k_500, k_10000, pk_mul, nI_add, nI_e0, nI_ee, nI_leI, nI_ltI, xbool0, xbool1, xbn0, xbn1, xb_0, xb_1, reduceIte, one0, Option.isNone_none, ne_eq, not_true_eq_false, not_false_eq_true, if_true, if_false, ite_not, Bool.true_and, Bool.and_true]
        rw [if_neg n0, bq_181_157, if_pos rfl, bq_181_262, if_pos rfl, bq_181_267, if_pos rfl]
        exact ⟨_, tail _ _ _, fl2_rf _, gtook_LX h0⟩
      · rw [tI_f a3, if_pos rfl, if_neg a3]
        simp (decide := true) (disch := omega) only [rq_181_128, Option.bind_some, xasI, xasL, xasR, xin_t, cond_true, cond_false, nI_clamp, k_0, k_1, k_2, k_3, k_4, k_5, k_6, k_40, k_60, k_500, k_10000, pk_mul, nI_add, nI_e0, nI_ee, nI_leI, nI_ltI, xbool0, xbool1, xbn0, xbn1, xb_0, xb_1, reduceIte, one0, Option.isNone_none, ne_eq, not_true_eq_false, not_false_eq_true, if_true, if_false, ite_not, Bool.true_and, Bool.and_true]
        by_cases a4 : q.1 15 (40 * h + r) = 0
        · rw [if_pos a4, if_pos a4, bq_181_139, if_pos rfl]
          simp (decide := true) (disch := omega) only [rq_181_144, Option.bind_some, xasI, xasL, xasR, xin_t, cond_true, cond_false, nI_clamp, k_0, k_1, k_2, k_3, k_4, k_5, k_6, k_40, k_60, k_500, k_10000, pk_mul, nI_add, nI_e0, nI_ee, nI_leI, nI_ltI, xbool0, xbool1, xbn0, xbn1, xb_0, xb_1, reduceIte, one0, Option.isNone_none, ne_eq, not_true_eq_false, not_false_eq_true, if_true, if_false, ite_not, Bool.true_and, Bool.and_true]
          rw [if_pos a4, bq_181_154, bq_181_157, if_pos rfl, bq_181_262, if_pos rfl, bq_181_267, if_pos rfl]
          exact ⟨_, tail _ _ _, fl2_rf _, gtook_LX h0⟩
        · rw [if_neg a4, if_neg a4, bq_181_138]
          exact ⟨q, rfl, fl2_rf _, h0⟩
