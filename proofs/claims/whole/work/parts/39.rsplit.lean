/-! THE REFERENCE'S split -/
theorem dec1 (x : Int32) : x + Int32.ofInt (-1) = x - nI 1 := by
  rw [Int32.sub_eq_add_neg]
  congr 1
theorem keepL_cons {l : KW} {x : Int32 × Int64 × Int32} (h : l.length < 4) (hx : ∀ y ∈ l, x.1 < y.1) : keepL l x = x :: l := by
  unfold keepL
  have hl : lkp Prod.fst x.1 l = none := lkp_none.mpr (fun y hy e => by
    have := hx y hy
    rw [e] at this
    exact i_irr this)
  rw [hl]
  dsimp only
  rw [if_neg (by omega)]
  have := insR_split (k := (Prod.fst : Int32 × Int64 × Int32 → Int32)) (x := x) (B := l) hx (A := []) (by simp)
  exact this
theorem keep_all : ∀ (A B : KW), (A ++ B).length ≤ 4 → srt Prod.fst (A ++ B) → A.reverse.foldl keepL B = A ++ B := by
  intro A
  induction A with
  | nil => intro B _ _; rfl
  | cons x A ih =>
    intro B hl hs
    rw [List.cons_append] at hs hl
    have hs' := List.pairwise_cons.mp hs
    rw [List.length_cons] at hl
    rw [List.reverse_cons, List.foldl_append, ih B (by omega) hs'.2, List.foldl_cons, List.foldl_nil, keepL_cons (by omega) hs'.1]
    rfl
theorem keep_copy {A : KW} (hl : A.length ≤ 4) (hs : srt Prod.fst A) : A.reverse.foldl keepL [] = A := by
  have := keep_all A [] (by simpa using hl) (by simpa using hs)
  simpa using this
theorem putL_cons {l : RW} {key : Int32} {v : Int64} (h : l.length < 60) (hx : ∀ y ∈ l, key < y.1) : (putL l key v).2 = (key, v) :: l := by
  unfold putL
  have hl : lkp Prod.fst key l = none := lkp_none.mpr (fun y hy e => by
    have := hx y hy
    rw [e] at this
    exact i_irr this)
  rw [hl]
  dsimp only
  rw [if_neg (by omega)]
  exact insR_split (k := (Prod.fst : Int32 × Int64 → Int32)) (x := (key, v)) (B := l) hx (A := []) (by simp)
def loR (l : RW) (key : Int32) : RW := l.filter (fun x => decide (x.1 < key))
def hiR (l : RW) (key : Int32) : RW := l.filter (fun x => decide (¬ x.1 < key))
theorem lohi_len (l : RW) (key : Int32) : (loR l key).length + (hiR l key).length = l.length := by
  unfold loR hiR
  induction l with
  | nil => rfl
  | cons x l ih =>
    rw [List.filter_cons, List.filter_cons]
    by_cases h : x.1 < key
    · simp only [h, decide_true, not_true_eq_false, decide_false, if_true, List.length_cons, Bool.false_eq_true, if_false]
      omega
    · simp only [h, decide_true, not_false_eq_true, decide_false, if_true, List.length_cons, Bool.false_eq_true, if_false]
      omega
theorem drop_mid {A B : RW} {x : Int32 × Int64} (hs : srt Prod.fst (A ++ x :: B)) : dropK Prod.fst x.1 (A ++ x :: B) = A ++ B := by
  have h := List.pairwise_append.mp hs
  have h2 := List.pairwise_cons.mp h.2.1
  unfold dropK
  rw [List.filter_append, List.filter_cons, if_neg (by simp)]
  congr 1
  · apply List.filter_eq_self.mpr
    intro y hy
    have := h.2.2 y hy x (by simp)
    simp only [ne_eq, decide_not, Bool.not_eq_true', decide_eq_false_iff_not]
    intro e
    rw [e] at this
    exact i_irr this
  · apply List.filter_eq_self.mpr
    intro y hy
    have := h2.1 y hy
    simp only [ne_eq, decide_not, Bool.not_eq_true', decide_eq_false_iff_not]
    intro e
    rw [e] at this
    exact i_irr this
theorem c_split_l {T0 MI B p pn : Nat} {key : Int32} {M : xM} {R0 : Nat → RW} {S : Nat → List Int32} {K : Nat → KW} {o1 o3 o4 : Option xV} {x4 : Int32} (hp : p < 240) (hpn : pn < 240) (hne : pn ≠ p) (h4 : o4 = some (vi x4)) (hl60 : (R0 p).length ≤ 60) (hs0 : srt Prod.fst (R0 p)) : ∀ k, k ≤ (R0 p).length → ∀ (q : xrho) (o8 o9 : Option xV), LAok q (va_up (va_up R0 p ((R0 p).take k ++ loR ((R0 p).drop k) key)) pn (hiR ((R0 p).drop k) key)) S K → ∃ (q' : xrho) (o7 o8' o9' : Option xV), xZ T0 MI 159 255 [some (vr (some B)), o1, some (vi key), o3, o4, some (vi (nI p)), some (vi (nI pn)), some (vi (nI k - nI 1)), o8, o9] [] (rput B q M) = xZ T0 MI 159 325 [some (vr (some B)), o1, some (vi key), o3, o4, some (vi (nI p)), some (vi (nI pn)), o7, o8', o9'] [] (rput B q' M) ∧ flat q q' ∧ LAok q' (va_up (va_up R0 p (loR (R0 p) key)) pn (hiR (R0 p) key)) S K := by
  subst h4
  intro k
  induction k with
  | zero =>
    intro _ q o8 o9 h
    refine ⟨q, some (vi (nI 0 - nI 1)), o8, o9, ?_, flat_rf q, ?_⟩
    · rw [bq_159_255, if_pos (by decide)]
    · rw [List.take_zero, List.drop_zero, List.nil_append] at h
      exact h
  | succ k ih =>
    intro hk q o8 o9 h
    have hsplit : (R0 p).drop k = (R0 p)[k]'(by omega) :: (R0 p).drop (k + 1) := List.drop_eq_getElem_cons (by omega)
    have htake : (R0 p).take (k + 1) = (R0 p).take k ++ [(R0 p)[k]'(by omega)] := by simp
    generalize hx : (R0 p)[k]'(by omega) = x at hsplit htake
    have hcat : R0 p = (R0 p).take k ++ x :: (R0 p).drop (k + 1) := by
      conv => lhs; rw [← List.take_append_drop k (R0 p), hsplit]
    rw [show nI (k + 1) - nI 1 = nI k from nI_s1 k, bq_159_255, if_neg (nI_pos (by omega))]
    have hP := h.1 p hp
    rw [va_up_ne _ _ (Ne.symm hne), va_up_self] at hP
    have hget : q.1 20 (60 * p + k) = x.1 ∧ q.2 27 (60 * p + k) = x.2 := by
      have e1 : (rowsV q p)[k]? = some (q.1 20 (60 * p + k), q.2 27 (60 * p + k)) := by
        refine win_get ?_
        rw [PR_nu hP, htake]
        simp
        omega
      rw [hP.2.2.1, htake] at e1
      have e2 : ((R0 p).take k ++ [x] ++ loR ((R0 p).drop (k + 1)) key)[k]? = some x := by
        rw [List.append_assoc, List.getElem?_append_right (by rw [List.length_take]; omega), List.length_take, Nat.min_eq_left (by omega), Nat.sub_self]
        rfl
      rw [e2] at e1
      have e3 := Option.some.inj e1
      rw [e3]
      exact ⟨rfl, rfl⟩
    simp (decide := true) (disch := omega) only [rq_159_260, Option.bind_some, xasI, xasL, xasR, xin_t, cond_true, cond_false, nI_clamp, k_0, k_1, k_2, k_3, k_4, k_5, k_6, k_40, k_60, k_500, k_10000, pk_mul, nI_add, nI_e0, nI_ee, nI_leI, nI_ltI, xbool0, xbool1, xbn0, xbn1, xb_0, xb_1, reduceIte, one0, Option.isNone_none, ne_eq, not_true_eq_false, not_false_eq_true, if_true, if_false, ite_not, hget.1]
    by_cases hc : x.1 < key
    · rw [if_neg (Int32.not_le.mpr hc), bq_159_281, bq_159_319, dec1]
      obtain ⟨q', o7, o8', o9', e, f1, l1⟩ := ih (by omega) q (some (vi (nI (60 * p + k)))) o9 (by
        have e1 : loR ((R0 p).drop k) key = x :: loR ((R0 p).drop (k + 1)) key := by
          unfold loR
          rw [hsplit, List.filter_cons, if_pos (by simp [hc])]
        have e2 : hiR ((R0 p).drop k) key = hiR ((R0 p).drop (k + 1)) key := by
          unfold hiR
          rw [hsplit, List.filter_cons, if_neg (by simp [hc])]
        rw [e1, e2]
        rw [htake, List.append_assoc, List.singleton_append] at h
        exact h)
      exact ⟨q', o7, o8', o9', e, f1, l1⟩
    · rw [if_pos (Int32.not_lt.mp hc)]
      have hQ := h.1 pn hpn
      rw [va_up_self] at hQ
      have hlen := lohi_len ((R0 p).drop (k + 1)) key
      have hd : ((R0 p).drop (k + 1)).length = (R0 p).length - (k + 1) := List.length_drop
      simp (decide := true) (disch := omega) only [rq_159_284, Option.bind_some, xasI, xasL, xasR, xin_t, cond_true, cond_false, nI_clamp, k_0, k_1, k_2, k_3, k_4, k_5, k_6, k_40, k_60, k_500, k_10000, pk_mul, nI_add, nI_e0, nI_ee, nI_leI, nI_ltI, xbool0, xbool1, xbn0, xbn1, xb_0, xb_1, reduceIte, one0, Option.isNone_none, ne_eq, not_true_eq_false, not_false_eq_true, if_true, if_false, ite_not, hget.1, hget.2]
      rw [c_lay hpn hQ.2.1 hQ.1]
      obtain ⟨f1, l1, -⟩ := glay_LA (key := x.1) (v := x.2) h hpn
      rw [va_up_self] at l1 f1
      have hs1 : srt Prod.fst ((R0 p).take k ++ x :: (R0 p).drop (k + 1)) := by rw [← hcat]; exact hs0
      have hs2 := List.pairwise_cons.mp (List.pairwise_append.mp hs1).2.1
      rw [putL_cons (l := hiR ((R0 p).drop (k + 1)) key) (by omega) (fun y hy => hs2.1 y (List.mem_filter.mp hy).1), va_up_up] at l1
      have hP2 := l1.1 p hp
      rw [va_up_ne _ _ (Ne.symm hne), va_up_self] at hP2
      have hget2 : (glay q pn (hiR ((R0 p).drop (k + 1)) key).length x.1 x.2).2.1 20 (60 * p + k) = x.1 := by
        rw [((glay_at hQ.2.1 (Ne.symm hne)).2 k (by omega)).1, hget.1]
      simp (decide := true) (disch := omega) only [rq_159_304, Option.bind_some, xasI, xasL, xasR, xin_t, cond_true, cond_false, nI_clamp, k_0, k_1, k_2, k_3, k_4, k_5, k_6, k_40, k_60, k_500, k_10000, pk_mul, nI_add, nI_e0, nI_ee, nI_leI, nI_ltI, xbool0, xbool1, xbn0, xbn1, xb_0, xb_1, reduceIte, one0, Option.isNone_none, ne_eq, not_true_eq_false, not_false_eq_true, if_true, if_false, ite_not, hget2]
      rw [c_strike hp hP2.2.1 hP2.1]
      obtain ⟨f2, l2⟩ := gstrike_LA (key := x.1) l1 hp
      rw [va_up_ne _ _ (Ne.symm hne), va_up_self] at l2 f2
      have hlo : loR ((R0 p).drop (k + 1)) key = [] := by
        unfold loR
        apply List.filter_eq_nil_iff.mpr
        intro y hy
        have := hs2.1 y hy
        simp only [decide_eq_true_eq]
        intro hy2
        exact hc (i_tr this hy2)
      rw [hlo, List.append_nil, htake, drop_mid (A := (R0 p).take k) (B := []) (by
        have := List.Pairwise.sublist (List.take_sublist (k + 1) (R0 p)) hs0
        rw [htake] at this
        exact this), List.append_nil] at l2
      simp (decide := true) (disch := omega) only [bq_159_319, Option.bind_some, xasI, xasL, xasR, xin_t, cond_true, cond_false, nI_clamp, k_0, k_1, k_2, k_3, k_4, k_5, k_6, k_40, k_60, k_500, k_10000, pk_mul, nI_add, nI_e0, nI_ee, nI_leI, nI_ltI, xbool0, xbool1, xbn0, xbn1, xb_0, xb_1, reduceIte, one0, Option.isNone_none, ne_eq, not_true_eq_false, not_false_eq_true, if_true, if_false, ite_not, dec1]
      obtain ⟨q', o7, o8', o9', e, f3, l3⟩ := ih (by omega) _ (some (vi (nI (60 * p + k)))) (some (vi (zI (glay q pn (hiR ((R0 p).drop (k + 1)) key).length x.1 x.2).1))) (by
        have e1 : loR ((R0 p).drop k) key = [] := by
          unfold loR at hlo ⊢
          rw [hsplit, List.filter_cons, if_neg (by simp [hc]), hlo]
        have e2 : hiR ((R0 p).drop k) key = x :: hiR ((R0 p).drop (k + 1)) key := by
          unfold hiR
          rw [hsplit, List.filter_cons, if_pos (by simp [hc])]
        rw [e1, e2, List.append_nil]
        rw [va_up_comm _ hne, va_up_up] at l2
        exact l2)
      refine ⟨q', o7, o8', o9', ?_, flat_tr f1 (flat_tr ?_ f3), l3⟩
      · rw [hlo, List.append_nil, htake] at *
        exact e
      · rw [hlo, List.append_nil, htake] at f2
        exact f2
theorem rup_nx (q : xrho) (k i : Nat) (x : Int32) {j : Nat} (h : j ≠ i) : (rup q k i x).1 k j = q.1 k j := by rw [rup_i, if_neg h]
/-- split: the contents but the lists -/
def gspq (q : xrho) (r h n : Nat) (key : Int32) : xrho := rup (rup (rup (rup (rup (rup (rup (gbook (rup (rup q 12 0 (nI (n + 1))) 5 r (q.1 5 r + nI 1)) n key (q.1 4 r) (q.1 5 r + nI 1) (nI h)) 4 r key) 15 (40 * h + n) (nI 1)) 16 (40 * h + n) key) 17 (40 * h + n) (q.1 17 (40 * h + r))) 17 (40 * h + r) key) 18 (40 * h + r) (q.1 5 r + nI 1)) 18 (40 * h + n) (q.1 5 r + nI 1)
def spR (R : Nat → RW) (p pn : Nat) (key : Int32) : Nat → RW := va_up (va_up R p (loR (R p) key)) pn (hiR (R p) key)
def spK (K : Nat → KW) (p pn : Nat) : Nat → KW := fun x => if 6 * pn ≤ x ∧ x < 6 * pn + 6 then K (6 * p + (x - 6 * pn)) else K x
theorem c_split_e {T0 MI B r h n : Nat} {q : xrho} {key : Int32} {M : xM} {R : Nat → RW} {S : Nat → List Int32} {K : Nat → KW} {o4 o5 o6 o7 o8 o9 : Option xV} (h0 : LAok q R S K) (hr : r < n) (hn : n < 40) (hh : h < 6) (hq : q.1 12 0 = nI n) : ∃ q', xZ T0 MI 159 104 [some (vr (some B)), some (vi (nI r)), some (vi key), some (vi (nI h)), o4, o5, o6, o7, o8, o9] [] (rput B q M) = some (some (vi (nI n)), rput B q' M) ∧ flat (gspq q r h n key) q' ∧ LAok q' (spR R (40 * h + r) (40 * h + n) key) S (spK K (40 * h + r) (40 * h + n)) := by
  simp (decide := true) (disch := omega) only [rq_159_104, bq_159_125, rq_159_133, Option.bind_some, xasI, xasL, xasR, xin_t, cond_true, cond_false, nI_clamp, k_0, k_1, k_2, k_3, k_4, k_5, k_6, k_40, k_60, k_500, k_10000, pk_mul, nI_add, nI_e0, nI_ee, nI_leI, nI_ltI, xbool0, xbool1, xbn0, xbn1, xb_0, xb_1, reduceIte, one0, Option.isNone_none, ne_eq, not_true_eq_false, not_false_eq_true, if_true, if_false, ite_not, hq, c_spot]
  rw [show ∀ z : xrho, (rup z 5 r ((rup q 12 0 (nI (n + 1))).1 5 r + nI 1)).1 4 r = z.1 4 r from fun _ => rfl, show ∀ z : xrho, ∀ y, (rup z 5 r y).1 5 r = y from fun _ _ => rup_at _ _ _ _, c_book (by omega)]
  simp (decide := true) (disch := omega) only [rq_159_165, Option.bind_some, xasI, xasL, xasR, xin_t, cond_true, cond_false, nI_clamp, k_0, k_1, k_2, k_3, k_4, k_5, k_6, k_40, k_60, k_500, k_10000, pk_mul, nI_add, nI_e0, nI_ee, nI_leI, nI_ltI, xbool0, xbool1, xbn0, xbn1, xb_0, xb_1, reduceIte, one0, Option.isNone_none, ne_eq, not_true_eq_false, not_false_eq_true, if_true, if_false, ite_not, gbook, rup_ne, rup_at, rup_nx]
  have e0 : ∀ x : xrho, LAok x (va_up (va_up R (40 * h + r) ((R (40 * h + r)).take (R (40 * h + r)).length ++ loR ((R (40 * h + r)).drop (R (40 * h + r)).length) key)) (40 * h + n) (hiR ((R (40 * h + r)).drop (R (40 * h + r)).length) key)) S K ↔ LAok x (va_up R (40 * h + n) []) S K := by
    intro x
    rw [List.take_length, List.drop_length]
    show LAok x (va_up (va_up R (40 * h + r) (R (40 * h + r) ++ [])) (40 * h + n) []) S K ↔ _
    rw [List.append_nil, va_up_id]
  have l0 : LAok (rup (gspq q r h n key) 19 (40 * h + n) (nI 0)) (va_up R (40 * h + n) []) S K := by
    refine ⟨fun p' hp' => ?_, fun p' hp' => PS_c (h0.2.1 p' hp') rfl (fun j _ => rfl), fun c hc => PK_c (h0.2.2 c hc) rfl (fun j _ => ⟨rfl, rfl, rfl⟩)⟩
    by_cases e : p' = 40 * h + n
    · subst e
      rw [va_up_self]
      refine ⟨by rw [rup_at]; rfl, by simp, ?_, by simp [srt]⟩
      unfold rowsV
      rw [nu_of (rup_at _ _ _ _) (by decide)]
      rfl
    · rw [va_up_ne _ _ e]
      exact PR_c (h0.1 p' hp') (by rw [rup_i, if_neg e]; rfl) (fun j _ => ⟨rfl, rfl⟩)
  have hP := h0.1 (40 * h + r) (by omega)
  obtain ⟨q1, o7', o8', o9', e1, f1, l1⟩ := c_split_l (T0 := T0) (MI := MI) (B := B) (p := 40 * h + r) (pn := 40 * h + n) (key := key) (M := M) (R0 := R) (S := S) (K := K) (o1 := some (vi (nI r))) (o3 := some (vi (nI h))) (o4 := some (vi (nI n))) (x4 := nI n) (by omega) (by omega) (by omega) rfl hP.2.1 hP.2.2.2 (R (40 * h + r)).length (Nat.le_refl _) (rup (gspq q r h n key) 19 (40 * h + n) (nI 0)) o8 o9 ((e0 _).mpr l0)
  have e7 : (rup (gspq q r h n key) 19 (40 * h + n) (nI 0)).1 19 (40 * h + r) = nI (R (40 * h + r)).length := by
    rw [rup_i, if_neg (by omega)]
    exact hP.1
  obtain ⟨f2, l2⟩ := nkS_LA (p := 40 * h + n) l1
  obtain ⟨q3, e3, f3, l3⟩ := c_keepAllL (T0 := T0) (MI := MI) (B := B) (M := M) (o3 := none) (o4 := none) (o5 := none) (p := 40 * h + n) (f := 40 * h + r) l2 (by omega) (by omega) (by omega)
  refine ⟨q3, ?_, flat_tr ⟨fun k a1 _ _ _ _ _ _ => rup_ne _ _ _ _ a1, fun _ _ _ => rfl⟩ (flat_tr f1 (flat_tr f2 f3)), ?_⟩
  · show xZ T0 MI 159 255 [some (vr (some B)), some (vi (nI r)), some (vi key), some (vi (nI h)), some (vi (nI n)), some (vi (nI (40 * h + r))), some (vi (nI (40 * h + n))), some (vi (q.1 19 (40 * h + r) - nI 1)), o8, o9] [] (rput B (rup (gspq q r h n key) 19 (40 * h + n) (nI 0)) M) = _
    rw [hP.1, e1, rq_159_325, c_nothingKept (by omega)]
    simp (decide := true) (disch := omega) only [rq_159_331, bq_159_339, Option.bind_some, xasI, xasL, xasR, xin_t, cond_true, cond_false, nI_clamp, k_0, k_1, k_2, k_3, k_4, k_5, k_6, k_40, k_60, k_500, k_10000, pk_mul, nI_add, nI_e0, nI_ee, nI_leI, nI_ltI, xbool0, xbool1, xbn0, xbn1, xb_0, xb_1, reduceIte, one0, Option.isNone_none, ne_eq, not_true_eq_false, not_false_eq_true, if_true, if_false, ite_not, e3]
  · have e : joinK (clrK K (40 * h + n)) (40 * h + n) (40 * h + r) 6 = fun x => if 6 * (40 * h + n) ≤ x ∧ x < 6 * (40 * h + n) + 6 then (K (6 * (40 * h + r) + (x - 6 * (40 * h + n)))).reverse.foldl keepL [] else K x := by
      funext x
      unfold joinK
      by_cases ex : 6 * (40 * h + n) ≤ x ∧ x < 6 * (40 * h + n) + 6
      · rw [if_pos ex, if_pos ex]
        unfold clrK
        rw [if_pos ex, if_neg (by omega)]
      · rw [if_neg ex, if_neg ex]
        unfold clrK
        rw [if_neg ex]
    rw [e] at l3
    refine ⟨l3.1, l3.2.1, fun c hc => ?_⟩
    have := l3.2.2 c hc
    dsimp only at this
    unfold spK
    by_cases ex : 6 * (40 * h + n) ≤ c ∧ c < 6 * (40 * h + n) + 6
    · rw [if_pos ex]
      rw [if_pos ex] at this
      have hk := h0.2.2 (6 * (40 * h + r) + (c - 6 * (40 * h + n))) (by omega)
      rw [keep_copy hk.2.1 hk.2.2.2] at this
      exact this
    · rw [if_neg ex]
      rw [if_neg ex] at this
      exact this
/-- split, the questions before -/
theorem c_split {T0 MI B : Nat} {q : xrho} {x key : Int32} {M : xM} {R : Nat → RW} {S : Nat → List Int32} {K : Nat → KW} {o3 o4 o5 o6 o7 o8 o9 : Option xV} (h0 : LAok q R S K) (h12 : isN q 12 0 40) (hb : ∀ r, r < 40 → xbool (q.1 2 r) = true) (h6 : ∀ r, r < 40 → isN q 6 r 5) : ∃ a q', xZ T0 MI 159 0 [some (vr (some B)), some (vi x), some (vi key), o3, o4, o5, o6, o7, o8, o9] [] (rput B q M) = some (some (vi a), rput B q' M) ∧ match grng q x with
    | none => a = Int32.ofInt (-1) ∧ q' = gref q 1
    | some r => if key ≤ q.1 3 r ∨ q.1 4 r ≤ key then a = Int32.ofInt (-3) ∧ q' = gref q 3 else if q.1 0 0 = 0 ∨ q.1 0 (nu q 6 r) = 0 then a = Int32.ofInt (-4) ∧ q' = gref q 4 else if tI (gfree q r (nu q 6 r)) = 0 then a = Int32.ofInt (-5) ∧ q' = gref q 5 else if nu q 12 0 = 40 then a = Int32.ofInt (-6) ∧ q' = gref q 6 else a = nI (nu q 12 0) ∧ flat (gspq q r (nu q 6 r) (nu q 12 0) key) q' ∧ LAok q' (spR R (40 * nu q 6 r + r) (40 * nu q 6 r + nu q 12 0) key) S (spK K (40 * nu q 6 r + r) (40 * nu q 6 r + nu q 12 0)) := by
  have b1 := h12.2
  rw [rq_159_0, c_isRangeO h12 hb]
  cases hx : grng q x with
  | none =>
    refine ⟨Int32.ofInt (-1), gref q 1, ?_, rfl, rfl⟩
    simp (decide := true) (disch := omega) only [bq_159_5, rq_159_8, bq_159_13, Option.bind_some, xasI, xasL, xasR, xin_t, cond_true, cond_false, nI_clamp, k_0, k_1, k_2, k_3, k_4, k_5, k_6, k_40, k_60, k_500, k_10000, pk_mul, nI_add, nI_e0, nI_ee, nI_leI, nI_ltI, xbool0, xbool1, xbn0, xbn1, xb_0, xb_1, reduceIte, one0, Option.isNone_none, ne_eq, not_true_eq_false, not_false_eq_true, if_true, if_false, ite_not, Option.isSome_none, zI_f, c_refuse (k := 1) (by decide) neg1]
  | some r =>
    obtain ⟨hrn, hr, rfl, -⟩ := grng_s h12 hx
    have b6 := (h6 r hr).2
    dsimp only
    simp (decide := true) (disch := omega) only [bq_159_5, rq_159_14, rq_159_24, Option.bind_some, xasI, xasL, xasR, xin_t, cond_true, cond_false, nI_clamp, k_0, k_1, k_2, k_3, k_4, k_5, k_6, k_40, k_60, k_500, k_10000, pk_mul, nI_add, nI_e0, nI_ee, nI_leI, nI_ltI, xbool0, xbool1, xbn0, xbn1, xb_0, xb_1, reduceIte, one0, Option.isNone_none, ne_eq, not_true_eq_false, not_false_eq_true, if_true, if_false, ite_not, Option.isSome_some, zI_t]
    by_cases h1 : key ≤ q.1 3 r
    · refine ⟨Int32.ofInt (-3), gref q 3, ?_, by rw [if_pos (Or.inl h1)]; exact ⟨rfl, rfl⟩⟩
      rw [if_pos h1]
      simp (decide := true) (disch := omega) only [rq_159_34, bq_159_40, Option.bind_some, xasI, xasL, xasR, xin_t, cond_true, cond_false, nI_clamp, k_0, k_1, k_2, k_3, k_4, k_5, k_6, k_40, k_60, k_500, k_10000, pk_mul, nI_add, nI_e0, nI_ee, nI_leI, nI_ltI, xbool0, xbool1, xbn0, xbn1, xb_0, xb_1, reduceIte, one0, Option.isNone_none, ne_eq, not_true_eq_false, not_false_eq_true, if_true, if_false, ite_not, c_refuse (k := 3) (by decide) neg3]
    rw [if_neg h1]
    by_cases h2 : key < q.1 4 r
    · have n1 : ¬ (key ≤ q.1 3 r ∨ q.1 4 r ≤ key) := fun e => e.elim h1 (fun e => Int32.not_le.mpr h2 e)
      rw [if_pos h2]
      simp (decide := true) (disch := omega) only [rq_159_41, Option.bind_some, xasI, xasL, xasR, xin_t, cond_true, cond_false, nI_clamp, k_0, k_1, k_2, k_3, k_4, k_5, k_6, k_40, k_60, k_500, k_10000, pk_mul, nI_add, nI_e0, nI_ee, nI_leI, nI_ltI, xbool0, xbool1, xbn0, xbn1, xb_0, xb_1, reduceIte, one0, Option.isNone_none, ne_eq, not_true_eq_false, not_false_eq_true, if_true, if_false, ite_not, (h6 r hr).1]
      by_cases h3 : q.1 0 0 = 0
      · refine ⟨Int32.ofInt (-4), gref q 4, ?_, by rw [if_neg n1, if_pos (Or.inl h3)]; exact ⟨rfl, rfl⟩⟩
        rw [if_pos h3]
        simp (decide := true) (disch := omega) only [rq_159_66, bq_159_72, Option.bind_some, xasI, xasL, xasR, xin_t, cond_true, cond_false, nI_clamp, k_0, k_1, k_2, k_3, k_4, k_5, k_6, k_40, k_60, k_500, k_10000, pk_mul, nI_add, nI_e0, nI_ee, nI_leI, nI_ltI, xbool0, xbool1, xbn0, xbn1, xb_0, xb_1, reduceIte, one0, Option.isNone_none, ne_eq, not_true_eq_false, not_false_eq_true, if_true, if_false, ite_not, c_refuse (k := 4) (by decide) neg4]
      rw [if_neg h3]
      simp (decide := true) (disch := omega) only [rq_159_57, Option.bind_some, xasI, xasL, xasR, xin_t, cond_true, cond_false, nI_clamp, k_0, k_1, k_2, k_3, k_4, k_5, k_6, k_40, k_60, k_500, k_10000, pk_mul, nI_add, nI_e0, nI_ee, nI_leI, nI_ltI, xbool0, xbool1, xbn0, xbn1, xb_0, xb_1, reduceIte, one0, Option.isNone_none, ne_eq, not_true_eq_false, not_false_eq_true, if_true, if_false, ite_not]
      by_cases h4 : q.1 0 (nu q 6 r) = 0
      · refine ⟨Int32.ofInt (-4), gref q 4, ?_, by rw [if_neg n1, if_pos (Or.inr h4)]; exact ⟨rfl, rfl⟩⟩
        rw [if_pos h4]
        simp (decide := true) (disch := omega) only [rq_159_66, bq_159_72, Option.bind_some, xasI, xasL, xasR, xin_t, cond_true, cond_false, nI_clamp, k_0, k_1, k_2, k_3, k_4, k_5, k_6, k_40, k_60, k_500, k_10000, pk_mul, nI_add, nI_e0, nI_ee, nI_leI, nI_ltI, xbool0, xbool1, xbn0, xbn1, xb_0, xb_1, reduceIte, one0, Option.isNone_none, ne_eq, not_true_eq_false, not_false_eq_true, if_true, if_false, ite_not, c_refuse (k := 4) (by decide) neg4]
      have n2 : ¬ (q.1 0 0 = 0 ∨ q.1 0 (nu q 6 r) = 0) := fun e => e.elim h3 h4
      rw [if_neg h4, rq_159_73, c_isFreeT hr (by omega) (h6 r hr).1]
      by_cases hf : gfree q r (nu q 6 r)
      · have n3 : ¬ tI (gfree q r (nu q 6 r)) = 0 := by rw [tI_t hf]; decide
        rw [tI_t hf]
        simp (decide := true) (disch := omega) only [bq_159_78, rq_159_88, Option.bind_some, xasI, xasL, xasR, xin_t, cond_true, cond_false, nI_clamp, k_0, k_1, k_2, k_3, k_4, k_5, k_6, k_40, k_60, k_500, k_10000, pk_mul, nI_add, nI_e0, nI_ee, nI_leI, nI_ltI, xbool0, xbool1, xbn0, xbn1, xb_0, xb_1, reduceIte, one0, Option.isNone_none, ne_eq, not_true_eq_false, not_false_eq_true, if_true, if_false, ite_not, h12.1]
        by_cases h5 : nu q 12 0 = 40
        · refine ⟨Int32.ofInt (-6), gref q 6, ?_, by rw [if_neg n1, if_neg n2, if_pos h5]; exact ⟨rfl, rfl⟩⟩
          rw [if_pos h5]
          simp (decide := true) (disch := omega) only [rq_159_97, bq_159_103, Option.bind_some, xasI, xasL, xasR, xin_t, cond_true, cond_false, nI_clamp, k_0, k_1, k_2, k_3, k_4, k_5, k_6, k_40, k_60, k_500, k_10000, pk_mul, nI_add, nI_e0, nI_ee, nI_leI, nI_ltI, xbool0, xbool1, xbn0, xbn1, xb_0, xb_1, reduceIte, one0, Option.isNone_none, ne_eq, not_true_eq_false, not_false_eq_true, if_true, if_false, ite_not, c_refuse (k := 6) (by decide) neg6]
        · rw [if_neg h5]
          obtain ⟨q', e, f, l⟩ := c_split_e (T0 := T0) (MI := MI) (B := B) (M := M) (r := r) (h := nu q 6 r) (n := nu q 12 0) (key := key) (o4 := o4) (o5 := o5) (o6 := o6) (o7 := o7) (o8 := o8) (o9 := o9) h0 hrn (by omega) (by omega) h12.1
          exact ⟨_, q', e, by rw [if_neg n1, if_neg n2, if_neg h5]; exact ⟨rfl, f, l⟩⟩
      · refine ⟨Int32.ofInt (-5), gref q 5, ?_, by rw [if_neg n1, if_neg n2, tI_f hf, if_pos rfl]; exact ⟨rfl, rfl⟩⟩
        rw [tI_f hf]
        simp (decide := true) (disch := omega) only [bq_159_78, rq_159_81, bq_159_87, Option.bind_some, xasI, xasL, xasR, xin_t, cond_true, cond_false, nI_clamp, k_0, k_1, k_2, k_3, k_4, k_5, k_6, k_40, k_60, k_500, k_10000, pk_mul, nI_add, nI_e0, nI_ee, nI_leI, nI_ltI, xbool0, xbool1, xbn0, xbn1, xb_0, xb_1, reduceIte, one0, Option.isNone_none, ne_eq, not_true_eq_false, not_false_eq_true, if_true, if_false, ite_not, c_refuse (k := 5) (by decide) neg5]
    · refine ⟨Int32.ofInt (-3), gref q 3, ?_, by rw [if_pos (Or.inr (Int32.not_lt.mp h2))]; exact ⟨rfl, rfl⟩⟩
      rw [if_neg h2]
      simp (decide := true) (disch := omega) only [rq_159_34, bq_159_40, Option.bind_some, xasI, xasL, xasR, xin_t, cond_true, cond_false, nI_clamp, k_0, k_1, k_2, k_3, k_4, k_5, k_6, k_40, k_60, k_500, k_10000, pk_mul, nI_add, nI_e0, nI_ee, nI_leI, nI_ltI, xbool0, xbool1, xbn0, xbn1, xb_0, xb_1, reduceIte, one0, Option.isNone_none, ne_eq, not_true_eq_false, not_false_eq_true, if_true, if_false, ite_not, c_refuse (k := 3) (by decide) neg3]
