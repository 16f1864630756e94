/-! THE REFERENCE'S called -/
def oldK (k : KW) (count : Int32) : Prop := k.length = 4 ∧ count < (k.head?.getD (count, 0, 0)).1
theorem PK_old {q : xrho} {c : Nat} {k : KW} (h : PK q c k) (count : Int32) : (k.length = 4 ∧ count < q.1 35 (4 * c + 3)) ↔ oldK k count := by
  unfold oldK
  have hw : (win (fun x => (q.1 35 x, q.2 37 x, q.1 36 x)) (4 * c) k.length).reverse = k := by
    have := h.2.2.1
    unfold keptV at this
    rw [PK_nu h] at this
    exact this
  by_cases e : k.length = 4
  · have e2 : k.head? = some (q.1 35 (4 * c + 3), q.2 37 (4 * c + 3), q.1 36 (4 * c + 3)) := by
      rw [e] at hw
      rw [← hw, win_succ, List.reverse_append]
      rfl
    rw [e2]
    exact Iff.rfl
  · exact ⟨fun h => absurd h.1 e, fun h => absurd h.1 e⟩
/-- the record of a call that was done -/
def gdone (q : xrho) (i : Nat) (c count h r e : Int32) : xrho := rup (rup (rup (rup (rup (rup q 83 i c) 84 i count) 85 i h) 86 i r) 87 i e) 88 0 (nI (i + 1))
noncomputable def acall (q : xrho) (L : xLs) (l h r : Nat) : xrho × xLs :=
  let p := 40 * h + r
  let c := nu q 62 l
  let n := nu q 66 l
  let key := q.1 48 (60 * c + n)
  if gserv q p (q.1 64 l) then
    match lkp Prod.fst (nI n) (L.2.2.1 (6 * p + c)) with
    | some x => (gansw q (nu q 82 0) (nI h) (nI c) (nI n) x.2.1 x.2.2, L)
    | none =>
      if tI (oldK (L.2.2.1 (6 * p + c)) (nI n)) = 1 then (q, L)
      else
        let d := doA (L.1 p) (nu q 47 (60 * c + n)) key (q.2 51 (60 * c + n)) (q.2 52 (60 * c + n))
        (gansw (gdone (rup (rupL q 89 0 d.2.1) 90 0 d.2.2.1) (nu q 88 0) (nI c) (nI n) (nI h) (nI r) (q.1 18 p)) (nu q 82 0) (nI h) (nI c) (nI n) d.2.1 d.2.2.1, va_up L.1 p d.1, doS d.2.2.2 (q.1 15 p) L.2.1 p key, va_up L.2.2.1 (6 * p + c) (keepL (L.2.2.1 (6 * p + c)) (nI n, d.2.1, d.2.2.1)), L.2.2.2)
  else (gknow q (nu q 82 0) h (nI c) (nI n) (knR q h key 0 (nu q 12 0) none) (knG q h key (nu q 44 0)), L)
theorem gansw_LX {q : xrho} {L : xLs} {l : Nat} {a b c e : Int32} {v : Int64} (h : LX q L) : LX (gansw q l a b c v e) L := LX_up rfl (LX_upL rfl (LX_up rfl (gnew_LX h)))
theorem gknow_LX {q : xrho} {L : xLs} {l h : Nat} {a b : Int32} {o1 o2 : Option Nat} (h0 : LX q L) : LX (gknow q l h a b o1 o2) L := by
  unfold gknow
  split
  · exact LX_up rfl (LX_up rfl (LX_up rfl (LX_up rfl (gnew_LX h0))))
  · split
    · exact LX_up rfl (LX_up rfl (LX_up rfl (LX_up rfl (gnew_LX h0))))
    · exact LX_up rfl (gnew_LX h0)
theorem gdone_LX {q : xrho} {L : xLs} {i : Nat} {a b c d e : Int32} (h0 : LX q L) : LX (gdone q i a b c d e) L := LX_up rfl (LX_up rfl (LX_up rfl (LX_up rfl (LX_up rfl (LX_up rfl h0)))))
theorem fl2_answ {q z : xrho} (h : fl2 z q) (l : Nat) (a b c e : Int32) (v : Int64) : fl2 (gansw z l a b c v e) (gansw q l a b c v e) := fl2_up (fl2_upL (fl2_up (fl2_new h _ _ _ _ _ _) _ _ _) _ _ _) _ _ _
theorem fl2_done {q z : xrho} (h : fl2 z q) (i : Nat) (a b c d e : Int32) : fl2 (gdone z i a b c d e) (gdone q i a b c d e) := fl2_up (fl2_up (fl2_up (fl2_up (fl2_up (fl2_up h _ _ _) _ _ _) _ _ _) _ _ _) _ _ _) _ _ _
theorem c_called {T0 MI B l h r : Nat} {q : xrho} {L : xLs} {M : xM} {o5 o6 o7 : Option xV} (h0 : LX q L) (hl : l < 1200) (hh : h < 6) (hr : r < 40) (h12 : isN q 12 0 40) (h82 : isN q 82 0 1199) (h44 : isN q 44 0 1200) (h88 : isN q 88 0 3999) (hc : isN q 62 l 5) (hn : isN q 66 l 59) (hk : isN q 47 (60 * nu q 62 l + nu q 66 l) 4) (ha : (addK (L.2.1 (40 * h + r)) (q.1 48 (60 * nu q 62 l + nu q 66 l))).length < 500) : ∃ q', xZ T0 MI 175 0 [some (vr (some B)), some (vi (nI l)), some (vi (nI h)), some (vi (nI r)), some (vi (nI (40 * h + r))), o5, o6, o7] [] (rput B q M) = some (none, rput B q' M) ∧ fl2 (acall q L l h r).1 q' ∧ LX q' (acall q L l h r).2 := by
  have b82 := h82.2
  have b12 := h12.2
  have b44 := h44.2
  have b88 := h88.2
  have bc := hc.2
  have bn := hn.2
  have bk := hk.2
  unfold acall
  dsimp only
  simp (decide := true) (disch := omega) only [rq_175_0, Option.bind_some, xasI, xasL, xasR, xin_t, cond_true, cond_false, nI_clamp, k_0, k_1, k_2, k_3, k_4, k_5, k_6, k_40, k_60, k_500, k_10000, pk_mul, nI_add, nI_e0, nI_ee, nI_leI, nI_ltI, xbool0, xbool1, xbn0, xbn1, xb_0, xb_1, reduceIte, one0, Option.isNone_none, ne_eq, not_true_eq_false, not_false_eq_true, if_true, if_false, ite_not, Bool.true_and, Bool.and_true, hc.1, hn.1]
  rw [c_isServed (by omega)]
  by_cases a1 : gserv q (40 * h + r) (q.1 64 l)
  case neg =>
    rw [if_neg a1, if_neg a1]
    refine ⟨_, ?_, fl2_rf _, gknow_LX h0⟩
    simp (decide := true) (disch := omega) only [bq_175_28, rq_175_31, Option.bind_some, xasI, xasL, xasR, xin_t, cond_true, cond_false, nI_clamp, k_0, k_1, k_2, k_3, k_4, k_5, k_6, k_40, k_60, k_500, k_10000, pk_mul, nI_add, nI_e0, nI_ee, nI_leI, nI_ltI, xbool0, xbool1, xbn0, xbn1, xb_0, xb_1, reduceIte, one0, Option.isNone_none, ne_eq, not_true_eq_false, not_false_eq_true, if_true, if_false, ite_not, Bool.true_and, Bool.and_true]
    rw [c_knows hh h12.2 h12.1 (by omega) h82.1 h44.2 h44.1]
    simp (decide := true) (disch := omega) only [bq_175_53, Option.bind_some, xasI, xasL, xasR, xin_t, cond_true, cond_false, nI_clamp, k_0, k_1, k_2, k_3, k_4, k_5, k_6, k_40, k_60, k_500, k_10000, pk_mul, nI_add, nI_e0, nI_ee, nI_leI, nI_ltI, xbool0, xbool1, xbn0, xbn1, xb_0, xb_1, reduceIte, one0, Option.isNone_none, ne_eq, not_true_eq_false, not_false_eq_true, if_true, if_false, ite_not, Bool.true_and, Bool.and_true]
  rw [if_pos a1, if_pos a1]
  have hK := h0.1.2.2 (6 * (40 * h + r) + nu q 62 l) (by omega)
  have hlk := PK_lkp hK (nI (nu q 66 l))
  simp (decide := true) (disch := omega) only [bq_175_28, rq_175_54, Option.bind_some, xasI, xasL, xasR, xin_t, cond_true, cond_false, nI_clamp, k_0, k_1, k_2, k_3, k_4, k_5, k_6, k_40, k_60, k_500, k_10000, pk_mul, nI_add, nI_e0, nI_ee, nI_leI, nI_ltI, xbool0, xbool1, xbn0, xbn1, xb_0, xb_1, reduceIte, one0, Option.isNone_none, ne_eq, not_true_eq_false, not_false_eq_true, if_true, if_false, ite_not, Bool.true_and, Bool.and_true]
  rw [c_keptAt (by omega) (by omega) hK.2.1 hK.1]
  cases ho : rfnd (fun j => q.1 35 (4 * (6 * (40 * h + r) + nu q 62 l) + j)) (nI (nu q 66 l)) 0 (L.2.2.1 (6 * (40 * h + r) + nu q 62 l)).length with
  | some j =>
    rw [ho] at hlk
    dsimp only at hlk
    obtain ⟨hj, hlk⟩ := hlk
    rw [hlk]
    refine ⟨_, ?_, fl2_rf _, gansw_LX h0⟩
    simp (decide := true) (disch := omega) only [bq_175_64, Option.bind_some, xasI, xasL, xasR, xin_t, cond_true, cond_false, nI_clamp, k_0, k_1, k_2, k_3, k_4, k_5, k_6, k_40, k_60, k_500, k_10000, pk_mul, nI_add, nI_e0, nI_ee, nI_leI, nI_ltI, xbool0, xbool1, xbn0, xbn1, xb_0, xb_1, reduceIte, one0, Option.isNone_none, ne_eq, not_true_eq_false, not_false_eq_true, if_true, if_false, ite_not, Bool.true_and, Bool.and_true]
    rw [show rfndI (some j) (4 * (6 * (40 * h + r) + nu q 62 l)) = nI (4 * (6 * (40 * h + r) + nu q 62 l) + j) from rfl, if_neg (nI_pos (by omega))]
    simp (decide := true) (disch := omega) only [rq_175_71, Option.bind_some, xasI, xasL, xasR, xin_t, cond_true, cond_false, nI_clamp, k_0, k_1, k_2, k_3, k_4, k_5, k_6, k_40, k_60, k_500, k_10000, pk_mul, nI_add, nI_e0, nI_ee, nI_leI, nI_ltI, xbool0, xbool1, xbn0, xbn1, xb_0, xb_1, reduceIte, one0, Option.isNone_none, ne_eq, not_true_eq_false, not_false_eq_true, if_true, if_false, ite_not, Bool.true_and, Bool.and_true]
    rw [c_answerTo (by omega) h82.1]
    simp (decide := true) (disch := omega) only [bq_175_94, bq_175_227, Option.bind_some, xasI, xasL, xasR, xin_t, cond_true, cond_false, nI_clamp, k_0, k_1, k_2, k_3, k_4, k_5, k_6, k_40, k_60, k_500, k_10000, pk_mul, nI_add, nI_e0, nI_ee, nI_leI, nI_ltI, xbool0, xbool1, xbn0, xbn1, xb_0, xb_1, reduceIte, one0, Option.isNone_none, ne_eq, not_true_eq_false, not_false_eq_true, if_true, if_false, ite_not, Bool.true_and, Bool.and_true]
  | none =>
    rw [ho] at hlk
    dsimp only at hlk
    rw [hlk]
    dsimp only
    simp (decide := true) (disch := omega) only [bq_175_64, Option.bind_some, xasI, xasL, xasR, xin_t, cond_true, cond_false, nI_clamp, k_0, k_1, k_2, k_3, k_4, k_5, k_6, k_40, k_60, k_500, k_10000, pk_mul, nI_add, nI_e0, nI_ee, nI_leI, nI_ltI, xbool0, xbool1, xbn0, xbn1, xb_0, xb_1, reduceIte, one0, Option.isNone_none, ne_eq, not_true_eq_false, not_false_eq_true, if_true, if_false, ite_not, Bool.true_and, Bool.and_true]
    rw [if_pos (show rfndI none (4 * (6 * (40 * h + r) + nu q 62 l)) < 0 from (by decide : Int32.ofInt (-1) < 0)), rq_175_97, c_isTooOld (by omega) (by omega) hK.2.1 hK.1]
    by_cases a2 : oldK (L.2.2.1 (6 * (40 * h + r) + nu q 62 l)) (nI (nu q 66 l))
    · rw [tI_t a2, if_pos rfl, if_pos ((PK_old hK _).mpr a2)]
      refine ⟨q, ?_, fl2_rf _, h0⟩
      simp (decide := true) (disch := omega) only [bq_175_107, bq_175_227, Option.bind_some, xasI, xasL, xasR, xin_t, cond_true, cond_false, nI_clamp, k_0, k_1, k_2, k_3, k_4, k_5, k_6, k_40, k_60, k_500, k_10000, pk_mul, nI_add, nI_e0, nI_ee, nI_leI, nI_ltI, xbool0, xbool1, xbn0, xbn1, xb_0, xb_1, reduceIte, one0, Option.isNone_none, ne_eq, not_true_eq_false, not_false_eq_true, if_true, if_false, ite_not, Bool.true_and, Bool.and_true]
    · rw [tI_f a2, if_neg (fun e => a2 ((PK_old hK _).mp e)), if_neg (show ¬ (0 : Int32) = 1 by decide)]
      obtain ⟨q1, e1, f1, l1⟩ := c_does (T0 := T0) (MI := MI) (B := B) (M := M) (o3 := none) (o4 := none) (o5 := none) (o6 := none) (o7 := none) (o8 := none) (o9 := none) (o10 := none) h0.1 (show 40 * h + r < 240 by omega) (show 60 * nu q 62 l + nu q 66 l < 360 by omega) hk.1 (by omega) ha
      generalize hd : doA (L.1 (40 * h + r)) (nu q 47 (60 * nu q 62 l + nu q 66 l)) (q.1 48 (60 * nu q 62 l + nu q 66 l)) (q.2 51 (60 * nu q 62 l + nu q 66 l)) (q.2 52 (60 * nu q 62 l + nu q 66 l)) = d at *
      have v89 : q1.2 89 0 = d.2.1 := by
        rw [f1.2 89 (by decide) (by decide)]
        show (rupL q 89 0 d.2.1).2 89 0 = _
        rw [rupL_i, if_pos rfl]
      have v90 : q1.1 90 0 = d.2.2.1 := by
        rw [f1.1 90 (by decide) (by decide) (by decide) (by decide) (by decide) (by decide) (by decide)]
        exact rup_at _ _ _ _
      have hK1 := l1.2.2 (6 * (40 * h + r) + nu q 62 l) (by omega)
      obtain ⟨f2, l2⟩ := gkeep_LA (c := 6 * (40 * h + r) + nu q 62 l) (count := nI (nu q 66 l)) (v := d.2.1) (sign := d.2.2.1) l1 (by omega)
      have e2 := c_keep (T0 := T0) (MI := MI) (B := B) (M := M) (q := q1) (count := nI (nu q 66 l)) (v := d.2.1) (sign := d.2.2.1) (o5 := none) (o7 := none) (o8 := none) (p := 40 * h + r) (cc := nu q 62 l) (by omega) (by omega) hK1.2.1 hK1.1
      generalize hq2 : gkeep q1 (6 * (40 * h + r) + nu q 62 l) (L.2.2.1 (6 * (40 * h + r) + nu q 62 l)).length (nI (nu q 66 l)) d.2.1 d.2.2.1 = q2 at *
      have f3 := flat_tr f1 f2
      have g88 : q2.1 88 0 = nI (nu q 88 0) := by
        rw [f3.1 88 (by decide) (by decide) (by decide) (by decide) (by decide) (by decide) (by decide)]
        exact h88.1
      have g18 : q2.1 18 (40 * h + r) = q.1 18 (40 * h + r) := by
        rw [f3.1 18 (by decide) (by decide) (by decide) (by decide) (by decide) (by decide) (by decide)]
        rfl
      have g82 : q2.1 82 0 = nI (nu q 82 0) := by
        rw [f3.1 82 (by decide) (by decide) (by decide) (by decide) (by decide) (by decide) (by decide)]
        exact h82.1
      have g89 : q2.2 89 0 = d.2.1 := by
        rw [f2.2 89 (by decide) (by decide)]
        exact v89
      have g90 : q2.1 90 0 = d.2.2.1 := by
        rw [f2.1 90 (by decide) (by decide) (by decide) (by decide) (by decide) (by decide) (by decide)]
        exact v90
      have l3 : LX q2 (va_up L.1 (40 * h + r) d.1, doS d.2.2.2 (q.1 15 (40 * h + r)) L.2.1 (40 * h + r) (q.1 48 (60 * nu q 62 l + nu q 66 l)), va_up L.2.2.1 (6 * (40 * h + r) + nu q 62 l) (keepL (L.2.2.1 (6 * (40 * h + r) + nu q 62 l)) (nI (nu q 66 l), d.2.1, d.2.2.1)), L.2.2.2) := LX_of (LX_up rfl (LX_upL rfl h0)) f3 l2
      refine ⟨gansw (gdone q2 (nu q 88 0) (nI (nu q 62 l)) (nI (nu q 66 l)) (nI h) (nI r) (q.1 18 (40 * h + r))) (nu q 82 0) (nI h) (nI (nu q 62 l)) (nI (nu q 66 l)) d.2.1 d.2.2.1, ?_, fl2_answ (fl2_done (fl2_of f3) _ _ _ _ _ _) _ _ _ _ _ _, gansw_LX (gdone_LX l3)⟩
      simp (decide := true) (disch := omega) only [bq_175_107, rq_175_110, Option.bind_some, xasI, xasL, xasR, xin_t, cond_true, cond_false, nI_clamp, k_0, k_1, k_2, k_3, k_4, k_5, k_6, k_40, k_60, k_500, k_10000, pk_mul, nI_add, nI_e0, nI_ee, nI_leI, nI_ltI, xbool0, xbool1, xbn0, xbn1, xb_0, xb_1, reduceIte, one0, Option.isNone_none, ne_eq, not_true_eq_false, not_false_eq_true, if_true, if_false, ite_not, Bool.true_and, Bool.and_true, e1]
      simp (decide := true) (disch := omega) only [rq_175_124, Option.bind_some, xasI, xasL, xasR, xin_t, cond_true, cond_false, nI_clamp, k_0, k_1, k_2, k_3, k_4, k_5, k_6, k_40, k_60, k_500, k_10000, pk_mul, nI_add, nI_e0, nI_ee, nI_leI, nI_ltI, xbool0, xbool1, xbn0, xbn1, xb_0, xb_1, reduceIte, one0, Option.isNone_none, ne_eq, not_true_eq_false, not_false_eq_true, if_true, if_false, ite_not, Bool.true_and, Bool.and_true, v89, v90, e2]
      rw [rq_175_142]
      simp (decide := true) (disch := omega) only [Option.bind_some, xasI, xasL, xasR, xin_t, cond_true, cond_false, nI_clamp, k_0, k_1, k_2, k_3, k_4, k_5, k_6, k_40, k_60, k_500, k_10000, pk_mul, nI_add, nI_e0, nI_ee, nI_leI, nI_ltI, xbool0, xbool1, xbn0, xbn1, xb_0, xb_1, reduceIte, one0, Option.isNone_none, ne_eq, not_true_eq_false, not_false_eq_true, if_true, if_false, ite_not, Bool.true_and, Bool.and_true, g88, rup_ne, rup_2, g89, g90, g18]
      rw [c_answerTo (q := rup (rup (rup (rup (rup (rup q2 83 (nu q 88 0) (nI (nu q 62 l))) 84 (nu q 88 0) (nI (nu q 66 l))) 85 (nu q 88 0) (nI h)) 86 (nu q 88 0) (nI r)) 87 (nu q 88 0) (q.1 18 (40 * h + r))) 88 0 (nI (nu q 88 0 + 1))) (l := nu q 82 0) (by omega) g82]
      simp (decide := true) (disch := omega) only [bq_175_227, Option.bind_some, xasI, xasL, xasR, xin_t, cond_true, cond_false, nI_clamp, k_0, k_1, k_2, k_3, k_4, k_5, k_6, k_40, k_60, k_500, k_10000, pk_mul, nI_add, nI_e0, nI_ee, nI_leI, nI_ltI, xbool0, xbool1, xbn0, xbn1, xb_0, xb_1, reduceIte, one0, Option.isNone_none, ne_eq, not_true_eq_false, not_false_eq_true, if_true, if_false, ite_not, Bool.true_and, Bool.and_true]
      rfl
