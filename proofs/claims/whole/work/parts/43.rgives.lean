/-! THE REFERENCE'S gives, closes -/
theorem drop_s {α : Type} (l : List α) {k : Nat} (h : k < l.length) : l.drop k = l[k] :: l.drop (k + 1) := List.drop_eq_getElem_cons h
theorem foldl_chL_len {R : RW} {w : Bool} : ∀ (s : List Int32) (acc : PW), acc.length ≤ 3 → (s.foldl (chL R w) acc).length ≤ 3
  | [], _, h => h
  | _ :: s, _, h => foldl_chL_len s _ (chL_len h)
theorem c_gv_1 {T0 MI B l p : Nat} {z : xrho} {M : xM} {R : RW} {s : List Int32} {o1 o2 o7 o8 o9 : Option xV} (hR : PR z p R) (hS : PS z p s) (hp : p < 240) (hl : l < 1200) : ∀ m k, k + m = s.length → ∀ acc : PW, acc.length ≤ 3 → ∃ o6', xZ T0 MI 166 63 [some (vr (some B)), o1, o2, some (vi (nI p)), some (vi (nI l)), some (vi (nI acc.length)), some (vi (nI (500 * p + k))), o7, o8, o9] [] (rput B (wrP z l acc) M) = xZ T0 MI 166 100 [some (vr (some B)), o1, o2, some (vi (nI p)), some (vi (nI l)), some (vi (nI ((s.drop k).foldl (chL R false) acc).length)), o6', o7, o8, o9] [] (rput B (wrP z l ((s.drop k).foldl (chL R false) acc)) M) := by
  have b := hS.2.1
  intro m
  induction m with
  | zero =>
    intro k hk acc ha
    refine ⟨some (vi (nI (500 * p + k))), ?_⟩
    have e25 : (wrP z l acc).1 25 p = nI s.length := hS.1
    rw [List.drop_eq_nil_of_le (by omega), List.foldl_nil]
    simp (decide := true) (disch := omega) only [rq_166_63, Option.bind_some, xasI, xasL, xasR, xin_t, cond_true, cond_false, nI_clamp, k_0, k_1, k_2, k_3, k_4, k_5, k_6, k_40, k_60, k_500, k_10000, pk_mul, nI_add, nI_e0, nI_ee, nI_leI, nI_ltI, xbool0, xbool1, xbn0, xbn1, xb_0, xb_1, reduceIte, one0, Option.isNone_none, ne_eq, not_true_eq_false, not_false_eq_true, if_true, if_false, ite_not, Bool.true_and, Bool.and_true, e25]
    rw [if_pos (by omega)]
  | succ m ih =>
    intro k hk acc ha
    have e25 : (wrP z l acc).1 25 p = nI s.length := hS.1
    obtain ⟨o6', e⟩ := ih (k + 1) (by omega) (chL R false acc (s[k]'(by omega))) (chL_len ha)
    refine ⟨o6', ?_⟩
    rw [drop_s _ (show k < s.length by omega), List.foldl_cons, ← e, rq_166_63]
    simp (decide := true) (disch := omega) only [Option.bind_some, xasI, xasL, xasR, xin_t, cond_true, cond_false, nI_clamp, k_0, k_1, k_2, k_3, k_4, k_5, k_6, k_40, k_60, k_500, k_10000, pk_mul, nI_add, nI_e0, nI_ee, nI_leI, nI_ltI, xbool0, xbool1, xbn0, xbn1, xb_0, xb_1, reduceIte, one0, Option.isNone_none, ne_eq, not_true_eq_false, not_false_eq_true, if_true, if_false, ite_not, Bool.true_and, Bool.and_true, e25]
    rw [if_neg (by omega), rq_166_80, show Int32.ofInt 0 = zI false from rfl, c_chooses (key := s[k]'(by omega)) hR hp hl (by omega) (PS_get hS (by omega)) ha]
    simp (decide := true) (disch := omega) only [bq_166_92, Option.bind_some, xasI, xasL, xasR, xin_t, cond_true, cond_false, nI_clamp, k_0, k_1, k_2, k_3, k_4, k_5, k_6, k_40, k_60, k_500, k_10000, pk_mul, nI_add, nI_e0, nI_ee, nI_leI, nI_ltI, xbool0, xbool1, xbn0, xbn1, xb_0, xb_1, reduceIte, one0, Option.isNone_none, ne_eq, not_true_eq_false, not_false_eq_true, if_true, if_false, ite_not, Bool.true_and, Bool.and_true]
    rfl
theorem c_gv_2 {T0 MI B l p : Nat} {z : xrho} {M : xM} {R : RW} {s : List Int32} {o1 o2 o7 o8 o9 : Option xV} (hR : PR z p R) (hS : PS z p s) (hp : p < 240) (hl : l < 1200) : ∀ m k, k + m = s.length → ∀ acc : PW, acc.length ≤ 3 → ∃ o6', xZ T0 MI 166 107 [some (vr (some B)), o1, o2, some (vi (nI p)), some (vi (nI l)), some (vi (nI acc.length)), some (vi (nI (500 * p + k))), o7, o8, o9] [] (rput B (wrP z l acc) M) = xZ T0 MI 166 144 [some (vr (some B)), o1, o2, some (vi (nI p)), some (vi (nI l)), some (vi (nI ((s.drop k).foldl (chL R true) acc).length)), o6', o7, o8, o9] [] (rput B (wrP z l ((s.drop k).foldl (chL R true) acc)) M) := by
  have b := hS.2.1
  intro m
  induction m with
  | zero =>
    intro k hk acc ha
    refine ⟨some (vi (nI (500 * p + k))), ?_⟩
    have e25 : (wrP z l acc).1 25 p = nI s.length := hS.1
    rw [List.drop_eq_nil_of_le (by omega), List.foldl_nil]
    simp (decide := true) (disch := omega) only [rq_166_107, Option.bind_some, xasI, xasL, xasR, xin_t, cond_true, cond_false, nI_clamp, k_0, k_1, k_2, k_3, k_4, k_5, k_6, k_40, k_60, k_500, k_10000, pk_mul, nI_add, nI_e0, nI_ee, nI_leI, nI_ltI, xbool0, xbool1, xbn0, xbn1, xb_0, xb_1, reduceIte, one0, Option.isNone_none, ne_eq, not_true_eq_false, not_false_eq_true, if_true, if_false, ite_not, Bool.true_and, Bool.and_true, e25]
    rw [if_pos (by omega)]
  | succ m ih =>
    intro k hk acc ha
    have e25 : (wrP z l acc).1 25 p = nI s.length := hS.1
    obtain ⟨o6', e⟩ := ih (k + 1) (by omega) (chL R true acc (s[k]'(by omega))) (chL_len ha)
    refine ⟨o6', ?_⟩
    rw [drop_s _ (show k < s.length by omega), List.foldl_cons, ← e, rq_166_107]
    simp (decide := true) (disch := omega) only [Option.bind_some, xasI, xasL, xasR, xin_t, cond_true, cond_false, nI_clamp, k_0, k_1, k_2, k_3, k_4, k_5, k_6, k_40, k_60, k_500, k_10000, pk_mul, nI_add, nI_e0, nI_ee, nI_leI, nI_ltI, xbool0, xbool1, xbn0, xbn1, xb_0, xb_1, reduceIte, one0, Option.isNone_none, ne_eq, not_true_eq_false, not_false_eq_true, if_true, if_false, ite_not, Bool.true_and, Bool.and_true, e25]
    rw [if_neg (by omega), rq_166_124, show Int32.ofInt 1 = zI true from rfl, c_chooses (key := s[k]'(by omega)) hR hp hl (by omega) (PS_get hS (by omega)) ha]
    simp (decide := true) (disch := omega) only [bq_166_136, Option.bind_some, xasI, xasL, xasR, xin_t, cond_true, cond_false, nI_clamp, k_0, k_1, k_2, k_3, k_4, k_5, k_6, k_40, k_60, k_500, k_10000, pk_mul, nI_add, nI_e0, nI_ee, nI_leI, nI_ltI, xbool0, xbool1, xbn0, xbn1, xb_0, xb_1, reduceIte, one0, Option.isNone_none, ne_eq, not_true_eq_false, not_false_eq_true, if_true, if_false, ite_not, Bool.true_and, Bool.and_true]
    rfl
theorem nI_s (a : Nat) : nI a + Int32.ofInt 1 = nI (a + 1) := by rw [k_1, nI_add]
/-- is the key among those that go -/
theorem c_gv_i {T0 MI B l p i : Nat} {q : xrho} {M : xM} {ks : List Int32} {key x6 : Int32} {o1 o2 : Option xV} (hl : l < 1200) (hi : i < 120000) (hk3 : ks.length ≤ 3) (hk : q.1 26 i = key) (hks : ∀ j (h : j < ks.length), q.1 74 (3 * l + j) = ks[j]) : ∀ m j, j + m = ks.length → ∀ b, xZ T0 MI 166 186 [some (vr (some B)), o1, o2, some (vi (nI p)), some (vi (nI l)), some (vi (nI ks.length)), some (vi x6), some (vi (nI i)), some (vi (zI b)), some (vi (nI j))] [] (rput B q M) = xZ T0 MI 166 233 [some (vr (some B)), o1, o2, some (vi (nI p)), some (vi (nI l)), some (vi (nI ks.length)), some (vi x6), some (vi (nI i)), some (vi (zI (b || decide (key ∈ ks.drop j)))), some (vi (nI ks.length))] [] (rput B q M) := by
  intro m
  induction m with
  | zero =>
    intro j hj b
    have e : j = ks.length := by omega
    subst e
    rw [List.drop_length, bq_166_186, if_pos (by rw [nI_leI (by omega) (by omega)]; omega)]
    simp
  | succ m ih =>
    intro j hj b
    rw [bq_166_186, if_neg (by rw [nI_leI (by omega) (by omega)]; omega), bq_166_193, drop_s _ (show j < ks.length by omega)]
    cases b with
    | true =>
      rw [zI_t, if_neg (by decide), bq_166_220, bq_166_225, nI_s, show Int32.ofInt 1 = zI true from rfl, ih (j + 1) (by omega) true]
      rfl
    | false =>
      rw [zI_f, if_pos rfl]
      simp (decide := true) (disch := omega) only [rq_166_198, Option.bind_some, xasI, xasL, xasR, xin_t, cond_true, cond_false, nI_clamp, k_0, k_1, k_2, k_3, k_4, k_5, k_6, k_40, k_60, k_500, k_10000, pk_mul, nI_add, nI_e0, nI_ee, nI_leI, nI_ltI, xbool0, xbool1, xbn0, xbn1, xb_0, xb_1, reduceIte, one0, Option.isNone_none, ne_eq, not_true_eq_false, not_false_eq_true, if_true, if_false, ite_not, Bool.true_and, Bool.and_true, hk]
      rw [hks j (by omega)]
      by_cases e : ks[j]'(by omega) = key
      · rw [if_pos e, bq_166_220, bq_166_225, nI_s, show Int32.ofInt 1 = zI true from rfl, ih (j + 1) (by omega) true]
        rw [e]
        simp
      · rw [if_neg e, bq_166_224, bq_166_225, nI_s, show Int32.ofInt 0 = zI false from rfl, ih (j + 1) (by omega) false]
        have e' : ¬ key = ks[j]'(by omega) := fun h => e h.symm
        rw [show decide (key ∈ ks[j]'(by omega) :: ks.drop (j + 1)) = decide (key ∈ ks.drop (j + 1)) from decide_eq_decide.mpr ⟨fun h => (List.mem_cons.mp h).elim (fun h => absurd h e') id, List.mem_cons_of_mem _⟩]
/-- the rest stays to be sent -/
def rstS (ks s : List Int32) : List Int32 := s.filter (fun k => !decide (k ∈ ks))
theorem c_gv_3 {T0 MI B l p : Nat} {M : xM} {ks s : List Int32} {o1 o2 : Option xV} (hp : p < 240) (hl : l < 1200) (hk3 : ks.length ≤ 3) (hs : s.length < 500) : ∀ m k, k + m = s.length → ∀ (q : xrho) (o8 o9 : Option xV), q.1 25 p = nI s.length → (∀ j (h : j < ks.length), q.1 74 (3 * l + j) = ks[j]) → (∀ j (h : j < s.length), k ≤ j → q.1 26 (500 * p + j) = s[j]) → (∀ j, j < (rstS ks (s.take k)).length → (rstS ks (s.take k))[j]? = some (q.1 26 (500 * p + j))) → ∃ (q' : xrho) (o7' o8' o9' : Option xV), xZ T0 MI 166 163 [some (vr (some B)), o1, o2, some (vi (nI p)), some (vi (nI l)), some (vi (nI ks.length)), some (vi (nI (rstS ks (s.take k)).length)), some (vi (nI (500 * p + k))), o8, o9] [] (rput B q M) = xZ T0 MI 166 270 [some (vr (some B)), o1, o2, some (vi (nI p)), some (vi (nI l)), some (vi (nI ks.length)), some (vi (nI (rstS ks s).length)), o7', o8', o9'] [] (rput B q' M) ∧ (∀ f, f ≠ 26 → q'.1 f = q.1 f) ∧ q'.2 = q.2 ∧ (∀ x, x < 500 * p ∨ 500 * p + 500 ≤ x → q'.1 26 x = q.1 26 x) ∧ ∀ j, j < (rstS ks s).length → (rstS ks s)[j]? = some (q'.1 26 (500 * p + j)) := by
  intro m
  induction m with
  | zero =>
    intro k hk q o8 o9 h25 h74 h26 hr
    rw [List.take_of_length_le (by omega)] at hr ⊢
    refine ⟨q, some (vi (nI (500 * p + k))), o8, o9, ?_, fun _ _ => rfl, rfl, fun _ _ => rfl, hr⟩
    simp (decide := true) (disch := omega) only [rq_166_163, Option.bind_some, xasI, xasL, xasR, xin_t, cond_true, cond_false, nI_clamp, k_0, k_1, k_2, k_3, k_4, k_5, k_6, k_40, k_60, k_500, k_10000, pk_mul, nI_add, nI_e0, nI_ee, nI_leI, nI_ltI, xbool0, xbool1, xbn0, xbn1, xb_0, xb_1, reduceIte, one0, Option.isNone_none, ne_eq, not_true_eq_false, not_false_eq_true, if_true, if_false, ite_not, Bool.true_and, Bool.and_true, h25]
    rw [if_pos (by omega)]
  | succ m ih =>
    intro k hk q o8 o9 h25 h74 h26 hr
    have hlen : (rstS ks (s.take k)).length ≤ k := by
      refine Nat.le_trans (List.length_filter_le _ _) ?_
      rw [List.length_take]
      omega
    have hkk : k < s.length := by omega
    have e0 := c_gv_i (T0 := T0) (MI := MI) (B := B) (M := M) (o1 := o1) (o2 := o2) (p := p) (x6 := nI (rstS ks (s.take k)).length) (i := 500 * p + k) (q := q) (key := s[k]) hl (by omega) hk3 (h26 k hkk (Nat.le_refl _)) h74 ks.length 0 (by omega) false
    have htk : rstS ks (s.take (k + 1)) = rstS ks (s.take k) ++ (if s[k] ∈ ks then [] else [s[k]]) := by
      unfold rstS
      rw [take_s _ hkk, List.filter_append]
      congr 1
      by_cases e : s[k] ∈ ks <;> simp [e]
    rw [rq_166_163]
    simp (decide := true) (disch := omega) only [Option.bind_some, xasI, xasL, xasR, xin_t, cond_true, cond_false, nI_clamp, k_0, k_1, k_2, k_3, k_4, k_5, k_6, k_40, k_60, k_500, k_10000, pk_mul, nI_add, nI_e0, nI_ee, nI_leI, nI_ltI, xbool0, xbool1, xbn0, xbn1, xb_0, xb_1, reduceIte, one0, Option.isNone_none, ne_eq, not_true_eq_false, not_false_eq_true, if_true, if_false, ite_not, Bool.true_and, Bool.and_true, h25]
    rw [if_neg (by omega), bq_166_180, show Int32.ofInt 0 = nI 0 from rfl]
    rw [show xZ T0 MI 166 186 [some (vr (some B)), o1, o2, some (vi (nI p)), some (vi (nI l)), some (vi (nI ks.length)), some (vi (nI (rstS ks (s.take k)).length)), some (vi (nI (500 * p + k))), some (vi (nI 0)), some (vi (nI 0))] [] (rput B q M) = _ from e0, Bool.false_or, List.drop_zero, bq_166_233]
    by_cases e : s[k] ∈ ks
    · rw [show decide (s[k] ∈ ks) = true by simp [e], zI_t, if_neg (by decide), bq_166_238, bq_166_264, nI_s]
      rw [if_pos e, List.append_nil] at htk
      obtain ⟨q', o7', o8', o9', e1, f1, f2, f3, f4⟩ := ih (k + 1) (by omega) q (some (vi 1)) (some (vi (nI ks.length))) h25 h74 (fun j h hj => h26 j h (by omega)) (by rw [htk]; exact hr)
      rw [htk] at e1
      exact ⟨q', o7', o8', o9', e1, f1, f2, f3, f4⟩
    · rw [show decide (s[k] ∈ ks) = false by simp [e], zI_f, if_pos rfl]
      rw [if_neg e] at htk
      have hv := h26 k hkk (Nat.le_refl _)
      obtain ⟨q', o7', o8', o9', e1, f1, f2, f3, f4⟩ := ih (k + 1) (by omega) (rup q 26 (500 * p + (rstS ks (s.take k)).length) s[k]) (some (vi 0)) (some (vi (nI ks.length))) h25 h74 (fun j h hj => by rw [rup_nx _ _ _ _ (by omega)]; exact h26 j h (by omega)) (by
        rw [htk]
        intro j hj
        rw [List.length_append, List.length_singleton] at hj
        by_cases ej : j = (rstS ks (s.take k)).length
        · subst ej
          rw [rup_at]
          simp
        · rw [rup_nx _ _ _ _ (by omega), List.getElem?_append_left (by omega)]
          exact hr j (by omega))
      refine ⟨q', o7', o8', o9', ?_, fun f hf => (f1 f hf).trans (rup_ne _ _ _ _ hf), f2, fun x hx => (f3 x hx).trans (rup_nx _ _ _ _ (by omega)), f4⟩
      rw [← e1, htk, List.length_append, List.length_singleton]
      simp (decide := true) (disch := omega) only [rq_166_241, bq_166_264, Option.bind_some, xasI, xasL, xasR, xin_t, cond_true, cond_false, nI_clamp, k_0, k_1, k_2, k_3, k_4, k_5, k_6, k_40, k_60, k_500, k_10000, pk_mul, nI_add, nI_e0, nI_ee, nI_leI, nI_ltI, xbool0, xbool1, xbn0, xbn1, xb_0, xb_1, reduceIte, one0, Option.isNone_none, ne_eq, not_true_eq_false, not_false_eq_true, if_true, if_false, ite_not, Bool.true_and, Bool.and_true, hv]
      rfl
/-- gives: what it writes, but the lists -/
def gvA (R : RW) (s : List Int32) : PW := s.foldl (chL R true) (s.foldl (chL R false) [])
def ggv (q : xrho) (h r l : Nat) (acc : PW) : xrho := rup (rup (rup (rup (wrP (gpart q h r l) l acc) 69 l (nI acc.length)) 29 (40 * h + r) (nI l)) 28 (40 * h + r) (nI acc.length)) 32 (40 * h + r) (nI 0)
theorem gvA_len (R : RW) (s : List Int32) : (gvA R s).length ≤ 3 := foldl_chL_len _ _ (foldl_chL_len _ _ (by simp))
theorem filter_srt {α : Type} {k : α → Int32} {l : List α} {f : α → Bool} (h : srt k l) : srt k (l.filter f) := List.Pairwise.sublist List.filter_sublist h
theorem c_gives_e {T0 MI B h r l : Nat} {q : xrho} {M : xM} {R : Nat → RW} {S : Nat → List Int32} {K Z : Nat → KW} {o4 o5 o6 o7 o8 o9 : Option xV} (h0 : LXok q R S K Z) (hh : h < 6) (hr : r < 40) (hl : l < 1200) (hq : q.1 82 0 = nI l) : ∃ q', xZ T0 MI 166 45 [some (vr (some B)), some (vi (nI h)), some (vi (nI r)), some (vi (nI (40 * h + r))), o4, o5, o6, o7, o8, o9] [] (rput B q M) = some (none, rput B q' M) ∧ fl2 (ggv q h r l (gvA (R (40 * h + r)) (S (40 * h + r)))) q' ∧ LXok q' R (va_up S (40 * h + r) (rstS ((gvA (R (40 * h + r)) (S (40 * h + r))).map Prod.fst) (S (40 * h + r)))) K Z := by
  have l1 : LXok (gpart q h r l) R S K Z := gpart_LX h0
  have hp : 40 * h + r < 240 := by omega
  have hR := l1.1.1 _ hp
  have hS := l1.1.2.1 _ hp
  have ha := gvA_len (R (40 * h + r)) (S (40 * h + r))
  rw [rq_166_45, c_partLetter hh hr hl hq]
  obtain ⟨o6', e1⟩ := c_gv_1 (T0 := T0) (MI := MI) (B := B) (M := M) (o1 := some (vi (nI h))) (o2 := some (vi (nI r))) (o7 := o7) (o8 := o8) (o9 := o9) hR hS hp hl (S (40 * h + r)).length 0 (by omega) [] (by simp)
  obtain ⟨o6'', e2⟩ := c_gv_2 (T0 := T0) (MI := MI) (B := B) (M := M) (o1 := some (vi (nI h))) (o2 := some (vi (nI r))) (o7 := o7) (o8 := o8) (o9 := o9) hR hS hp hl (S (40 * h + r)).length 0 (by omega) ((S (40 * h + r)).foldl (chL (R (40 * h + r)) false) []) (foldl_chL_len _ _ (by simp))
  rw [List.drop_zero] at e1 e2
  rw [wrP_nil] at e1
  have l3 : LXok (rup (wrP (gpart q h r l) l (gvA (R (40 * h + r)) (S (40 * h + r)))) 69 l (nI (gvA (R (40 * h + r)) (S (40 * h + r))).length)) R S K Z := LX_up rfl (wrP_LX l1)
  have hS3 := l3.1.2.1 _ hp
  obtain ⟨q', o7', o8', o9', e3, f1, f2, f3, f4⟩ := c_gv_3 (T0 := T0) (MI := MI) (B := B) (M := M) (o1 := some (vi (nI h))) (o2 := some (vi (nI r))) (ks := (gvA (R (40 * h + r)) (S (40 * h + r))).map Prod.fst) hp hl (by rw [List.length_map]; exact ha) hS3.2.1 (S (40 * h + r)).length 0 (by omega) _ o8 o9 hS3.1 (fun j hj => by
    show (wrP (gpart q h r l) l (gvA (R (40 * h + r)) (S (40 * h + r)))).1 74 (3 * l + j) = _
    rw [wrP_1, if_neg (by decide), if_pos rfl, wrF_in _ _ _ hj]) (fun j hj _ => PS_get hS3 hj) (fun j hj => by simp [rstS] at hj)
  have hrl : (rstS ((gvA (R (40 * h + r)) (S (40 * h + r))).map Prod.fst) (S (40 * h + r))).length ≤ (S (40 * h + r)).length := List.length_filter_le _ _
  have hs5 := hS3.2.1
  refine ⟨rup (rup (rup (rup q' 25 (40 * h + r) (nI (rstS ((gvA (R (40 * h + r)) (S (40 * h + r))).map Prod.fst) (S (40 * h + r))).length)) 29 (40 * h + r) (nI l)) 28 (40 * h + r) (nI (gvA (R (40 * h + r)) (S (40 * h + r))).length)) 32 (40 * h + r) (nI 0), ?_, ?_, ?_⟩
  · simp (decide := true) (disch := omega) only [bq_166_51, Option.bind_some, xasI, xasL, xasR, xin_t, cond_true, cond_false, nI_clamp, k_0, k_1, k_2, k_3, k_4, k_5, k_6, k_40, k_60, k_500, k_10000, pk_mul, nI_add, nI_e0, nI_ee, nI_leI, nI_ltI, xbool0, xbool1, xbn0, xbn1, xb_0, xb_1, reduceIte, one0, Option.isNone_none, ne_eq, not_true_eq_false, not_false_eq_true, if_true, if_false, ite_not, Bool.true_and, Bool.and_true]
    rw [show xZ T0 MI 166 63 [some (vr (some B)), some (vi (nI h)), some (vi (nI r)), some (vi (nI (40 * h + r))), some (vi (nI l)), some (vi (nI 0)), some (vi (nI (500 * (40 * h + r)))), o7, o8, o9] [] (rput B (gpart q h r l) M) = _ from e1, bq_166_100]
    simp (decide := true) (disch := omega) only [Option.bind_some, xasI, xasL, xasR, xin_t, cond_true, cond_false, nI_clamp, k_0, k_1, k_2, k_3, k_4, k_5, k_6, k_40, k_60, k_500, k_10000, pk_mul, nI_add, nI_e0, nI_ee, nI_leI, nI_ltI, xbool0, xbool1, xbn0, xbn1, xb_0, xb_1, reduceIte, one0, Option.isNone_none, ne_eq, not_true_eq_false, not_false_eq_true, if_true, if_false, ite_not, Bool.true_and, Bool.and_true]
    rw [show xZ T0 MI 166 107 [some (vr (some B)), some (vi (nI h)), some (vi (nI r)), some (vi (nI (40 * h + r))), some (vi (nI l)), some (vi (nI ((S (40 * h + r)).foldl (chL (R (40 * h + r)) false) []).length)), some (vi (nI (500 * (40 * h + r)))), o7, o8, o9] [] (rput B (wrP (gpart q h r l) l ((S (40 * h + r)).foldl (chL (R (40 * h + r)) false) [])) M) = _ from e2]
    show xZ T0 MI 166 144 [some (vr (some B)), some (vi (nI h)), some (vi (nI r)), some (vi (nI (40 * h + r))), some (vi (nI l)), some (vi (nI (gvA (R (40 * h + r)) (S (40 * h + r))).length)), o6'', o7, o8, o9] [] (rput B (wrP (gpart q h r l) l (gvA (R (40 * h + r)) (S (40 * h + r)))) M) = _
    simp (decide := true) (disch := omega) only [rq_166_144, Option.bind_some, xasI, xasL, xasR, xin_t, cond_true, cond_false, nI_clamp, k_0, k_1, k_2, k_3, k_4, k_5, k_6, k_40, k_60, k_500, k_10000, pk_mul, nI_add, nI_e0, nI_ee, nI_leI, nI_ltI, xbool0, xbool1, xbn0, xbn1, xb_0, xb_1, reduceIte, one0, Option.isNone_none, ne_eq, not_true_eq_false, not_false_eq_true, if_true, if_false, ite_not, Bool.true_and, Bool.and_true]
    rw [List.length_map] at e3
    rw [show xZ T0 MI 166 163 [some (vr (some B)), some (vi (nI h)), some (vi (nI r)), some (vi (nI (40 * h + r))), some (vi (nI l)), some (vi (nI (gvA (R (40 * h + r)) (S (40 * h + r))).length)), some (vi (nI 0)), some (vi (nI (500 * (40 * h + r)))), o8, o9] [] (rput B (rup (wrP (gpart q h r l) l (gvA (R (40 * h + r)) (S (40 * h + r)))) 69 l (nI (gvA (R (40 * h + r)) (S (40 * h + r))).length)) M) = _ from e3]
    simp (decide := true) (disch := omega) only [rq_166_270, Option.bind_some, xasI, xasL, xasR, xin_t, cond_true, cond_false, nI_clamp, k_0, k_1, k_2, k_3, k_4, k_5, k_6, k_40, k_60, k_500, k_10000, pk_mul, nI_add, nI_e0, nI_ee, nI_leI, nI_ltI, xbool0, xbool1, xbn0, xbn1, xb_0, xb_1, reduceIte, one0, Option.isNone_none, ne_eq, not_true_eq_false, not_false_eq_true, if_true, if_false, ite_not, Bool.true_and, Bool.and_true]
  · unfold ggv
    refine fl2_up (fl2_up (fl2_up ⟨fun k hk => ?_, fun k _ => by rw [rup_2, f2]⟩ _ _ _) _ _ _) _ _ _
    rw [rup_ne _ _ _ _ (nf_ne hk rfl), f1 k (nf_ne hk rfl)]
  · refine LX_up rfl (LX_up rfl (LX_up rfl ?_))
    have c1 : ∀ k, k ≠ 25 → k ≠ 26 → (rup q' 25 (40 * h + r) (nI (rstS ((gvA (R (40 * h + r)) (S (40 * h + r))).map Prod.fst) (S (40 * h + r))).length)).1 k = (rup (wrP (gpart q h r l) l (gvA (R (40 * h + r)) (S (40 * h + r)))) 69 l (nI (gvA (R (40 * h + r)) (S (40 * h + r))).length)).1 k := fun k a b => (rup_ne _ _ _ _ a).trans (f1 k b)
    refine ⟨⟨fun p' hp' => PR_c (l3.1.1 p' hp') (by rw [c1 _ (by decide) (by decide)]) (fun j _ => ⟨by rw [c1 _ (by decide) (by decide)], by rw [rup_2, f2]⟩), fun p' hp' => ?_, fun c hc => PK_c (l3.1.2.2 c hc) (by rw [c1 _ (by decide) (by decide)]) (fun j _ => ⟨by rw [c1 _ (by decide) (by decide)], by rw [rup_2, f2], by rw [c1 _ (by decide) (by decide)]⟩)⟩, fun c hc => ?_⟩
    · by_cases e : p' = 40 * h + r
      · subst e
        rw [va_up_self]
        refine ⟨rup_at _ _ _ _, by omega, ?_, filter_srt hS3.2.2.2⟩
        unfold sendV
        rw [nu_of (rup_at _ _ _ _) (by omega)]
        apply List.ext_getElem?
        intro j
        by_cases hj : j < (rstS ((gvA (R (40 * h + r)) (S (40 * h + r))).map Prod.fst) (S (40 * h + r))).length
        · rw [win_get hj, f4 j hj, rup_ne _ _ _ _ (by decide)]
        · rw [List.getElem?_eq_none (by rw [win_len]; omega), List.getElem?_eq_none (by omega)]
      · rw [va_up_ne _ _ e]
        refine PS_c (l3.1.2.1 p' hp') (by rw [rup_nx _ _ _ _ e, f1 25 (by decide)]) (fun j _ => ?_)
        rw [rup_ne _ _ _ _ (by decide), f3 _ (by omega)]
    · have := l3.2 c hc
      unfold PL lkeptV nu at this ⊢
      rw [c1 _ (by decide) (by decide), c1 79 (by decide) (by decide), c1 80 (by decide) (by decide), rup_2, f2]
      exact this
