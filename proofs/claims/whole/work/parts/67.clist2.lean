/-! ArrayList: clear, remove, a new one -/
theorem c_clear_l {T0 MI a ea N n : Nat} {m1 x : Int32} {M : xM} {o0 : Option xV} (hn : n ≤ N) (hN : N ≤ 4000) : ∀ m k, k + m = n → ∀ f : Nat → Option Nat, ∃ f', xZ T0 MI 213 27 [o0, some (vr (some ea)), some (vi (nI n)), some (vi (nI k))] [] (pLq a ea N m1 x f M) = some (none, pLq a ea N m1 x f' M) := by
  intro m
  induction m with
  | zero =>
    intro k hk f
    exact ⟨f, by rw [bq_213_27, if_pos (by rw [nI_leI (by omega) (by omega)]; omega), bq_213_42]⟩
  | succ m ih =>
    intro k hk f
    obtain ⟨f', e⟩ := ih (k + 1) (by omega) (va_up f k none)
    refine ⟨f', ?_⟩
    rw [bq_213_27, if_neg (by rw [nI_leI (by omega) (by omega)]; omega), bq_213_32, Option.bind_some, pL_s (by omega) hN rfl, Option.bind_some, nI_s, e]
theorem oL_clear {T0 MI : Nat} {M : xM} {ow : xOw} {g pt a : Nat} {es : List Nat} {o1 o2 o3 : Option xV} (hg : g ≠ 8) (h : oList T0 M ow g pt a es) : ∃ M', xZ T0 MI 213 0 [some (vr (some a)), o1, o2, o3] [] M = some (none, M') ∧ oList T0 M' ow g pt a [] ∧ stp (fun t => ¬ inP g pt (pt + 1) t) 0 0 ow M ow M' := by
  obtain ⟨ea, N, m, f, h1, h2, h3, h4, o, b, h5⟩ := h
  have D : a ≠ ea := oList_d (M := M) hg o h5
  have hid := pL_id h1 h2
  have e0 := pL_pm (N := N) (m := m) (n := nI es.length) (f := f) (M := M) D (m + Int32.ofInt 1)
  rw [hid] at e0
  have st : ∀ f', xZ T0 MI 213 27 [some (vr (some a)), some (vr (some ea)), some (vi (nI es.length)), some (vi (nI 0))] [] (pLq a ea N (m + Int32.ofInt 1) (nI 0) f M) = some (none, f') → xZ T0 MI 213 0 [some (vr (some a)), o1, o2, o3] [] M = some (none, f') := by
    intro f' hf
    rw [bq_213_0, gI h1 0 rfl, Option.bind_some, e0, Option.bind_some, pL_1 D, Option.bind_some, pL_2 D, Option.bind_some, pL_pn D, Option.bind_some]
    exact hf
  obtain ⟨f', e⟩ := c_clear_l (T0 := T0) (MI := MI) (a := a) (ea := ea) (M := M) (m1 := m + Int32.ofInt 1) (x := nI 0) (o0 := some (vr (some a))) h3.1 h3.2 es.length 0 (by omega) f
  refine ⟨_, st _ e, ⟨ea, N, m + Int32.ofInt 1, f', pL_o D, pL_e, ⟨by simp, h3.2⟩, fun j hj => by simp at hj, o, b, h5⟩, ?_⟩
  rcases h5 with h5 | h5
  · -- the empty row stays as it is
    have es0 : es.length = 0 := by omega
    have ef : pLq a ea N (m + Int32.ofInt 1) (nI 0) f' M = pLq a ea N (m + Int32.ofInt 1) (nI 0) f M := by
      rw [es0, bq_213_27, if_pos (by decide), bq_213_42] at e
      exact (congrArg Prod.snd (Option.some.inj e)).symm
    rw [ef]
    refine ⟨Nat.le_refl _, ⟨Nat.le_refl _, id⟩, Nat.le_refl _, fun z hz => ⟨rfl, fun hP => ?_⟩⟩
    have za : z ≠ a := fun e => hP (by rw [e, o]; exact inP_i (Nat.le_refl _) (Nat.le_succ _))
    by_cases ez : z = ea
    · rw [ez]; exact pL_e.trans h2.symm
    · exact pL_out za ez
  · exact pLq_stp o h5.2
theorem oL_remove {T0 MI : Nat} {M : xM} {ow : xOw} {g pt a i : Nat} {es : List Nat} {o2 o3 : Option xV} (hg : g ≠ 8) (h : oList T0 M ow g pt a es) (hi : i < es.length) (hE : ∀ e ∈ es, isObj M e ∧ e ≠ a) : ∃ M', xZ T0 MI 211 0 [some (vr (some a)), some (vi (nI i)), o2, o3] [] M = some (some (vr (some es[i])), M') ∧ oList T0 M' ow g pt a (es.eraseIdx i) ∧ stp (fun t => ¬ inP g pt (pt + 1) t) 0 0 ow M ow M' := by
  obtain ⟨ea, N, m, f, h1, h2, h3, h4, o, b, h5⟩ := h
  have D : a ≠ ea := oList_d (M := M) hg o h5
  have hid := pL_id h1 h2
  have h5' : 0 < N ∧ ow ea = (g, pt + 1) := by
    rcases h5 with h5 | h5
    · omega
    · exact h5
  have hN := h3.2
  have hn := h3.1
  have e0 := pL_pm (N := N) (m := m) (n := nI es.length) (f := f) (M := M) D (m + Int32.ofInt 1)
  rw [hid] at e0
  have hlen : (es.eraseIdx i).length = es.length - 1 := by rw [List.length_eraseIdx, if_pos hi]
  have sub1 : nI es.length - Int32.ofInt 1 = nI (es.length - 1) := by
    rw [k_1, show es.length = (es.length - 1) + 1 by omega, nI_s1]
    rfl
  have fin : ∀ f' : Nat → Option Nat, (∀ j, j < es.length - 1 → f' j = if j < i then f j else f (j + 1)) → xZ T0 MI 212 34 [some (vr (some a)), some (vr (some ea)), some (vi (nI i)), some (vi (nI (es.length - 1)))] [] (pLq a ea N (m + Int32.ofInt 1) (nI es.length) f' M) = some (none, pLq a ea N (m + Int32.ofInt 1) (nI (es.length - 1)) (va_up f' (es.length - 1) none) M) ∧ oList T0 (pLq a ea N (m + Int32.ofInt 1) (nI (es.length - 1)) (va_up f' (es.length - 1) none) M) ow g pt a (es.eraseIdx i) := by
    intro f' hf'
    refine ⟨?_, ⟨ea, N, m + Int32.ofInt 1, va_up f' (es.length - 1) none, by rw [hlen]; exact pL_o D, pL_e, ⟨by omega, hN⟩, fun j hj => ?_, o, b, h5⟩⟩
    · rw [bq_212_34, pL_pn D, Option.bind_some, Option.bind_some, pL_s (by omega) hN rfl, Option.bind_some]
    · rw [va_up_ne _ _ (by omega), hf' j (by omega), List.getElem_eraseIdx]
      by_cases e : j < i
      · rw [if_pos e, dif_pos e]; exact h4 j (by omega)
      · rw [if_neg e, dif_neg e]; exact h4 (j + 1) (by omega)
  have run : ∀ M' : xM, xZ T0 MI 212 0 [some (vr (some a)), some (vr (some ea)), some (vi (nI i)), none] [] M = some (none, M') → xZ T0 MI 211 0 [some (vr (some a)), some (vi (nI i)), o2, o3] [] M = some (some (vr (some es[i])), M') := by
    intro M' hM'
    rw [bq_211_0, gI h1 2 rfl, Option.bind_some, c_check hi (by omega)]
    simp (decide := true) (disch := omega) only [Option.bind_some, xasI, xasL, xasR, xin_t, cond_true, cond_false, nI_clamp, k_0, k_1, k_2, k_3, k_4, k_5, k_6, k_40, k_60, k_500, k_10000, pk_mul, nI_add, nI_e0, nI_ee, nI_leI, nI_ltI, xbool0, xbool1, xbn0, xbn1, xb_0, xb_1, reduceIte, one0, Option.isNone_none, ne_eq, not_true_eq_false, not_false_eq_true, if_true, if_false, ite_not, Bool.true_and, Bool.and_true]
    have ra : xaR M ea (nI i) = some (some es[i]) := by
      rw [aR h2 rfl, xin_t (by omega) (by omega), nI_clamp (by omega), h4 i hi]
      rfl
    rw [bq_211_8, gR h1 1 rfl, Option.bind_some, Option.bind_some, ra, Option.bind_some, gC h1, cond_true, hM']
    simp (decide := true) (disch := omega) only [bq_211_24, Option.bind_some, xasI, xasL, xasR, xin_t, cond_true, cond_false, nI_clamp, k_0, k_1, k_2, k_3, k_4, k_5, k_6, k_40, k_60, k_500, k_10000, pk_mul, nI_add, nI_e0, nI_ee, nI_leI, nI_ltI, xbool0, xbool1, xbn0, xbn1, xb_0, xb_1, reduceIte, one0, Option.isNone_none, ne_eq, not_true_eq_false, not_false_eq_true, if_true, if_false, ite_not, Bool.true_and, Bool.and_true]
  by_cases e : es.length - 1 ≤ i
  · obtain ⟨r1, r2⟩ := fin f (fun j hj => by rw [if_pos (by omega)])
    refine ⟨_, run _ ?_, r2, pLq_stp o h5'.2⟩
    rw [bq_212_0, gI h1 0 rfl, Option.bind_some, e0, Option.bind_some, pL_2 D, Option.bind_some, sub1, if_pos (by rw [nI_leI (by omega) (by omega)]; exact e), r1]
  · obtain ⟨r1, r2⟩ := fin (va_cpy f f (i + 1) i (es.length - 1 - i)) (fun j hj => by
      unfold va_cpy
      by_cases ej : j < i
      · rw [if_neg (by omega), if_pos ej]
      · rw [if_pos ⟨by omega, by omega⟩, if_neg ej]
        congr 1
        omega)
    refine ⟨_, run _ ?_, r2, pLq_stp o h5'.2⟩
    have d1 : nI (es.length - 1) - nI i = nI (es.length - 1 - i) := by
      have := nI_add (es.length - 1 - i) i
      rw [show es.length - 1 - i + i = es.length - 1 by omega] at this
      rw [← this]
      exact Int32.add_sub_cancel _ _
    have hcp : xcopy (pLq a ea N (m + Int32.ofInt 1) (nI es.length) f M) ea (nI (i + 1)) ea (nI i) (nI (es.length - 1 - i)) = some (pLq a ea N (m + Int32.ofInt 1) (nI es.length) (va_cpy f f (i + 1) i (es.length - 1 - i)) M) := by
      unfold xcopy
      rw [pL_e]
      dsimp only
      have ok : xcpyOk (nI (i + 1)) (nI i) (nI (es.length - 1 - i)) N N = true := by
        unfold xcpyOk
        rw [nI_clamp (by omega), nI_clamp (by omega), nI_clamp (by omega)]
        have a1 : ¬ nI (i + 1) < 0 := nI_pos (by omega)
        have a2 : ¬ nI i < 0 := nI_pos (by omega)
        have a3 : ¬ nI (es.length - 1 - i) < 0 := nI_pos (by omega)
        simp [a1, a2, a3]
        omega
      have ok2 : xcpyR (pLq a ea N (m + Int32.ofInt 1) (nI es.length) f M) 3 f (nI (i + 1)).toNatClampNeg (nI (es.length - 1 - i)).toNatClampNeg = true := by
        rw [nI_clamp (by omega), nI_clamp (by omega)]
        unfold xcpyR
        rw [List.all_eq_true]
        intro j hj
        have hj := List.mem_range.mp hj
        rw [h4 (i + 1 + j) (by omega)]
        have hm := hE es[i + 1 + j] (List.getElem_mem _)
        obtain ⟨c, fs, e1, e2⟩ := hm.1
        refine obj_may ⟨c, fs, ?_, e2⟩
        rw [pL_out hm.2 (fun e => by rw [e, h2] at e1; cases e1)]
        exact e1
      rw [ok, ok2, show Nat.blt 0 N = true by simp [Nat.blt]; omega, nI_clamp (by omega), nI_clamp (by omega), nI_clamp (by omega)]
      unfold pLq
      rw [xset_xset]
      rfl
    rw [bq_212_0, gI h1 0 rfl, Option.bind_some, e0, Option.bind_some, pL_2 D, Option.bind_some, sub1, if_neg (by rw [nI_leI (by omega) (by omega)]; exact e), bq_212_22, Option.bind_some, Option.bind_some, nI_s, d1, hcp, Option.bind_some, r1]
/-- new ArrayList() -/
theorem c_newList {T0 MI a : Nat} {M : xM} (h : M.2.2 a = .inr (13, [vi 0, vr none, vi 0])) : xZ T0 MI 203 0 [some (vr (some a))] [] M = some (none, xset M a (.inr (13, [vi 0, vr (some T0), vi 0]))) := by
  have h2 : (xset M a (.inr (13, [vi 0, vr none, vi 0]))).2.2 a = .inr (13, [vi 0, vr none, vi 0]) := xset_at _ _ _
  rw [bq_203_0, bq_202_0, bq_201_0]
  simp (decide := true) (disch := omega) only [Option.bind_some, xasI, xasL, xasR, xin_t, cond_true, cond_false, nI_clamp, k_0, k_1, k_2, k_3, k_4, k_5, k_6, k_40, k_60, k_500, k_10000, pk_mul, nI_add, nI_e0, nI_ee, nI_leI, nI_ltI, xbool0, xbool1, xbn0, xbn1, xb_0, xb_1, reduceIte, one0, Option.isNone_none, ne_eq, not_true_eq_false, not_false_eq_true, if_true, if_false, ite_not, Bool.true_and, Bool.and_true]
  rw [bq_202_4, pV h 0 rfl]
  simp (decide := true) (disch := omega) only [Option.bind_some, xasI, xasL, xasR, xin_t, cond_true, cond_false, nI_clamp, k_0, k_1, k_2, k_3, k_4, k_5, k_6, k_40, k_60, k_500, k_10000, pk_mul, nI_add, nI_e0, nI_ee, nI_leI, nI_ltI, xbool0, xbool1, xbn0, xbn1, xb_0, xb_1, reduceIte, one0, Option.isNone_none, ne_eq, not_true_eq_false, not_false_eq_true, if_true, if_false, ite_not, Bool.true_and, Bool.and_true]
  rw [bq_203_4]
  have h3 : (xset M a (.inr (13, [vi (nI 0), vr none, vi 0]))).2.2 a = .inr (13, [vi (nI 0), vr none, vi 0]) := xset_at _ _ _
  show (xput (xset M a (.inr (13, [vi (nI 0), vr none, vi 0]))) a 13 1 (vr (some T0))).bind _ = _
  rw [pV h3 1 rfl, Option.bind_some, xset_xset]
  rfl
theorem xdef13 : xdef 13 = [vi 0, vr none, vi 0] := by decide
