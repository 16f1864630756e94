/-! a caller's asks and copy: askOf, spotOf, copy, answer -/
theorem sp_g {M : xM} {ow : xOw} {s : Nat} {n lo hi e h : Int32} (H : isSpot M ow s n lo hi e h) : xcls M s 10 = true ∧ xgetI M s 10 0 = some n ∧ xgetI M s 10 1 = some lo ∧ xgetI M s 10 2 = some hi ∧ xgetI M s 10 3 = some e ∧ xgetI M s 10 4 = some h := ⟨gC H.1, gI H.1 0 rfl, gI H.1 1 rfl, gI H.1 2 rfl, gI H.1 3 rfl, gI H.1 4 rfl⟩
theorem c_has {T0 MI s : Nat} {M : xM} {ow : xOw} {n lo hi e h key : Int32} (H : isSpot M ow s n lo hi e h) : xZ T0 MI 60 0 [some (vr (some s)), some (vi key)] [] M = some (some (vi (tI (¬ key < lo ∧ ¬ hi ≤ key))), M) := by
  obtain ⟨-, -, g1, g2, -⟩ := sp_g H
  rw [bq_60_0, g1, Option.bind_some]
  by_cases a : key < lo
  · rw [if_pos a, bq_60_20, bq_60_21, tI_f (fun h => h.1 a)]; rfl
  · rw [if_neg a, bq_60_8, g2, Option.bind_some]
    by_cases b : hi ≤ key
    · rw [if_pos b, bq_60_20, bq_60_21, tI_f (fun h => h.2 b)]; rfl
    · rw [if_neg b, bq_60_16, bq_60_21, tI_t ⟨a, b⟩]; rfl
theorem c_spotOf_l {T0 MI c a cp ak : Nat} {M : xM} {ow : xOw} {cs as : List Nat} {vs : List SV} {key : Int32} (H : oCa T0 M ow c a cp ak cs as) (hS : sps M ow cs vs) (hc : c < 6) : ∀ m i, i + m = cs.length → ∀ o3 : Option xV, ∃ o, xZ T0 MI 4 2 [some (vr (some a)), some (vi key), some (vi (nI i)), o3] [] M = some (some (vr o), M) ∧ ((o = none ∧ ∀ j (hj : j < vs.length), i ≤ j → ¬ (¬ key < nI vs[j].2.1 ∧ ¬ nI vs[j].2.2.1 ≤ key)) ∨ ∃ j, ∃ hj : j < vs.length, ∃ hj2 : j < cs.length, o = some cs[j] ∧ (¬ key < nI vs[j].2.1 ∧ ¬ nI vs[j].2.2.1 ≤ key)) := by
  obtain ⟨h1, o1, b1, l1, l2⟩ := H
  have hb := (oL_c l1).2.2.2
  have g1 : xgetR M a 1 1 = some (some cp) := gR h1 1 rfl
  intro m
  induction m with
  | zero =>
    intro i hi o3
    refine ⟨none, ?_, Or.inl ⟨rfl, fun j hj hij => by have := hS.1; omega⟩⟩
    rw [bq_4_2, g1, Option.bind_some, Option.bind_some, (oL_c l1).1, cond_true, oL_size l1]
    simp (decide := true) (disch := omega) only [Option.bind_some, xasI, xasL, xasR, xin_t, cond_true, cond_false, nI_clamp, k_0, k_1, k_2, k_3, k_4, k_5, k_6, k_40, k_60, k_500, k_10000, pk_mul, nI_add, nI_e0, nI_ee, nI_leI, nI_ltI, xbool0, xbool1, xbn0, xbn1, xb_0, xb_1, reduceIte, one0, Option.isNone_none, ne_eq, not_true_eq_false, not_false_eq_true, if_true, if_false, ite_not, Bool.true_and, Bool.and_true]
    rw [bq_4_10, if_pos (by rw [nI_leI (by omega) (by omega)]; omega), bq_4_41]
  | succ m ih =>
    intro i hi o3
    have hii : i < cs.length := by omega
    have hiv : i < vs.length := by have := hS.1; omega
    have sp := hS.2 i hii hiv
    have st : xZ T0 MI 4 2 [some (vr (some a)), some (vi key), some (vi (nI i)), o3] [] M = xZ T0 MI 4 30 [some (vr (some a)), some (vi key), some (vi (nI i)), some (vr (some cs[i]))] [vi (tI (¬ key < nI vs[i].2.1 ∧ ¬ nI vs[i].2.2.1 ≤ key))] M := by
      rw [bq_4_2, g1, Option.bind_some, Option.bind_some, (oL_c l1).1, cond_true, oL_size l1]
      simp (decide := true) (disch := omega) only [Option.bind_some, xasI, xasL, xasR, xin_t, cond_true, cond_false, nI_clamp, k_0, k_1, k_2, k_3, k_4, k_5, k_6, k_40, k_60, k_500, k_10000, pk_mul, nI_add, nI_e0, nI_ee, nI_leI, nI_ltI, xbool0, xbool1, xbn0, xbn1, xb_0, xb_1, reduceIte, one0, Option.isNone_none, ne_eq, not_true_eq_false, not_false_eq_true, if_true, if_false, ite_not, Bool.true_and, Bool.and_true]
      rw [bq_4_10, if_neg (by rw [nI_leI (by omega) (by omega)]; omega), bq_4_13, g1, Option.bind_some, Option.bind_some, (oL_c l1).1, cond_true, oL_get (by omega) l1 hii]
      simp (decide := true) (disch := omega) only [Option.bind_some, xasI, xasL, xasR, xin_t, cond_true, cond_false, nI_clamp, k_0, k_1, k_2, k_3, k_4, k_5, k_6, k_40, k_60, k_500, k_10000, pk_mul, nI_add, nI_e0, nI_ee, nI_leI, nI_ltI, xbool0, xbool1, xbn0, xbn1, xb_0, xb_1, reduceIte, one0, Option.isNone_none, ne_eq, not_true_eq_false, not_false_eq_true, if_true, if_false, ite_not, Bool.true_and, Bool.and_true]
      rw [bq_4_21]
      dsimp only
      rw [(sp_g sp).1, cond_true, cond_true, c_has sp]
      simp (decide := true) (disch := omega) only [Option.bind_some, xasI, xasL, xasR, xin_t, cond_true, cond_false, nI_clamp, k_0, k_1, k_2, k_3, k_4, k_5, k_6, k_40, k_60, k_500, k_10000, pk_mul, nI_add, nI_e0, nI_ee, nI_leI, nI_ltI, xbool0, xbool1, xbn0, xbn1, xb_0, xb_1, reduceIte, one0, Option.isNone_none, ne_eq, not_true_eq_false, not_false_eq_true, if_true, if_false, ite_not, Bool.true_and, Bool.and_true]
    by_cases e : ¬ key < nI vs[i].2.1 ∧ ¬ nI vs[i].2.2.1 ≤ key
    · refine ⟨some cs[i], ?_, Or.inr ⟨i, hiv, hii, rfl, e⟩⟩
      rw [st, tI_t e, bq_4_30, if_neg one0, bq_4_33]
    · obtain ⟨o, e1, e2⟩ := ih (i + 1) (by omega) (some (vr (some cs[i])))
      refine ⟨o, ?_, ?_⟩
      · rw [st, tI_f e, bq_4_30, if_pos rfl, bq_4_35, nI_s, e1]
      · rcases e2 with ⟨e3, e4⟩ | e3
        · refine Or.inl ⟨e3, fun j hj hij => ?_⟩
          by_cases ej : j = i
          · subst ej
            exact e
          · exact e4 j hj (by omega)
        · exact Or.inr e3
/-- the spot of a key in a copy -/
theorem c_spotOf {T0 MI c a cp ak : Nat} {M : xM} {ow : xOw} {cs as : List Nat} {vs : List SV} {q : xrho} {key : Int32} {o2 o3 : Option xV} (H : oCa T0 M ow c a cp ak cs as) (hS : sps M ow cs vs) (hV : cpV q c vs) (hc : c < 6) : ∃ o, xZ T0 MI 4 0 [some (vr (some a)), some (vi key), o2, o3] [] M = some (some (vr o), M) ∧ match ix key 10000 with
    | none => o = none
    | some k => ∃ s, o = some s ∧ isSpot M ow s (q.1 55 (10000 * c + k)) (q.1 58 (10000 * c + k)) (q.1 59 (10000 * c + k)) (q.1 56 (10000 * c + k)) (q.1 57 (10000 * c + k)) := by
  obtain ⟨o, e1, e2⟩ := c_spotOf_l (T0 := T0) (MI := MI) (key := key) H hS hc cs.length 0 (by omega) o3
  refine ⟨o, by rw [bq_4_0, k_0]; exact e1, ?_⟩
  rcases pk_ix key (n := 10000) (by decide) with e | e | ⟨k, hk, rfl⟩
  · rw [ix_lo e]
    rcases e2 with ⟨e3, -⟩ | ⟨j, hj, hj2, -, e4⟩
    · exact e3
    · exact absurd (Int32.lt_of_lt_of_le e (le_0 (by have := (hV.1 _ (List.getElem_mem hj)).1; have := (hV.1 _ (List.getElem_mem hj)).2.1; omega))) e4.1
  · rw [ix_hi e]
    rcases e2 with ⟨e3, -⟩ | ⟨j, hj, hj2, -, e4⟩
    · exact e3
    · refine absurd (Int32.le_trans ?_ e) e4.2
      have := (hV.1 _ (List.getElem_mem hj)).2.1
      exact (nI_leI (by omega) (by omega)).mpr this
  · rw [ix_i hk (by decide)]
    dsimp only
    rcases e2 with ⟨-, e4⟩ | ⟨j, hj, hj2, e3, e4⟩
    · obtain ⟨v, hv, hk2⟩ := hV.2.2 k hk
      obtain ⟨j, hj, rfl⟩ := List.getElem_of_mem hv
      have hb := (hV.1 _ (List.getElem_mem hj)).2.1
      refine absurd ⟨?_, ?_⟩ (e4 j hj (Nat.zero_le _))
      · rw [nI_ltI (by omega) (by omega)]; have := hk2.1; omega
      · rw [nI_leI (by omega) (by omega)]; have := hk2.2; omega
    · obtain ⟨h1, h2, h3⟩ := hV.1 _ (List.getElem_mem hj)
      rw [nI_ltI (by omega) (by omega), nI_leI (by omega) (by omega)] at e4
      obtain ⟨g1, g2, g3, g4, g5⟩ := h3 k ⟨by omega, by omega⟩
      refine ⟨_, e3, ?_⟩
      rw [g1, g2, g3, g4, g5]
      exact hS.2 j hj2 hj
/-- the ask of a count -/
theorem c_askOf {T0 MI c a cp ak : Nat} {M : xM} {ow : xOw} {cs as : List Nat} {q : xrho} {aa : Nat → Nat} {x : Int32} (H : oCa T0 M ow c a cp ak cs as) (hc : c < 6) (hl : as.length = nu q 46 c) (ha : ∀ j (hj : j < as.length), as[j] = aa (60 * c + j)) (hA : ∀ j, j < nu q 46 c → xcls M (aa (60 * c + j)) 0 = true) : xZ T0 MI 3 0 [some (vr (some a)), some (vi x)] [] M = some (some (vr ((ix x (nu q 46 c)).map (fun j => aa (60 * c + j)))), M) := by
  obtain ⟨h1, o1, b1, l1, l2⟩ := H
  have hb := (oL_c l2).2.2.2
  have g1 : xgetR M a 1 2 = some (some ak) := gR h1 2 rfl
  rw [← hl, bq_3_0]
  rcases pk_ix x (n := as.length) (by omega) with e | e | ⟨j, hj, rfl⟩
  · rw [if_pos e, bq_3_15, bq_3_30, ix_lo e]; rfl
  · rw [if_neg (nlt_ge (by omega) e), bq_3_4, g1, Option.bind_some, Option.bind_some, (oL_c l2).1, cond_true, oL_size l2]
    simp (decide := true) (disch := omega) only [Option.bind_some, xasI, xasL, xasR, xin_t, cond_true, cond_false, nI_clamp, k_0, k_1, k_2, k_3, k_4, k_5, k_6, k_40, k_60, k_500, k_10000, pk_mul, nI_add, nI_e0, nI_ee, nI_leI, nI_ltI, xbool0, xbool1, xbn0, xbn1, xb_0, xb_1, reduceIte, one0, Option.isNone_none, ne_eq, not_true_eq_false, not_false_eq_true, if_true, if_false, ite_not, Bool.true_and, Bool.and_true]
    rw [bq_3_12, if_neg (Int32.not_lt.mpr e), bq_3_15, bq_3_30, ix_hi e]
    rfl
  · rw [if_neg (nlt0 (by omega)), bq_3_4, g1, Option.bind_some, Option.bind_some, (oL_c l2).1, cond_true, oL_size l2]
    simp (decide := true) (disch := omega) only [Option.bind_some, xasI, xasL, xasR, xin_t, cond_true, cond_false, nI_clamp, k_0, k_1, k_2, k_3, k_4, k_5, k_6, k_40, k_60, k_500, k_10000, pk_mul, nI_add, nI_e0, nI_ee, nI_leI, nI_ltI, xbool0, xbool1, xbn0, xbn1, xb_0, xb_1, reduceIte, one0, Option.isNone_none, ne_eq, not_true_eq_false, not_false_eq_true, if_true, if_false, ite_not, Bool.true_and, Bool.and_true]
    rw [bq_3_12, if_pos ((nI_ltI (by omega) (by omega)).mpr hj), bq_3_19, g1, Option.bind_some, Option.bind_some, (oL_c l2).1, cond_true, oL_get (by omega) l2 hj]
    simp (decide := true) (disch := omega) only [Option.bind_some, xasI, xasL, xasR, xin_t, cond_true, cond_false, nI_clamp, k_0, k_1, k_2, k_3, k_4, k_5, k_6, k_40, k_60, k_500, k_10000, pk_mul, nI_add, nI_e0, nI_ee, nI_leI, nI_ltI, xbool0, xbool1, xbn0, xbn1, xb_0, xb_1, reduceIte, one0, Option.isNone_none, ne_eq, not_true_eq_false, not_false_eq_true, if_true, if_false, ite_not, Bool.true_and, Bool.and_true]
    rw [bq_3_27]
    dsimp only
    rw [ha j hj, hA j (by omega), cond_true, bq_3_30, ix_i hj (by omega)]
    rfl
theorem P_copy {T0 MI X n : Nat} {q : xrho} {L : xLs} {M : xM} {ow : xOw} {x key what : Int32} {o4 o5 : Option xV} (H : RepE T0 X n q L M ow) (B : bds q) : xZ T0 MI 70 0 [some (vr (some X)), some (vi x), some (vi key), some (vi what), o4, o5] [] M = some (some (vi (gcopyP q x key what)), M) := by
  obtain ⟨ad, fh, fp, cl, ll, dl, aa, pk, H⟩ := H
  have H4 := H.2.2.2.2.1
  have b := B.1.2
  rw [bq_70_0, (ho_c H.2.1).1, cond_true, c_callerOf H.2.1 H4]
  unfold gcopyP
  cases hx : ix x (nu q 45 0) with
  | none => simp (decide := true) (disch := omega) only [Option.bind_some, xasI, xasL, xasR, xin_t, cond_true, cond_false, nI_clamp, k_0, k_1, k_2, k_3, k_4, k_5, k_6, k_40, k_60, k_500, k_10000, pk_mul, nI_add, nI_e0, nI_ee, nI_leI, nI_ltI, xbool0, xbool1, xbn0, xbn1, xb_0, xb_1, reduceIte, one0, Option.isNone_none, ne_eq, not_true_eq_false, not_false_eq_true, if_true, if_false, ite_not, Bool.true_and, Bool.and_true, Option.bind_none, Option.isNone_none, bq_70_5, bq_70_12, bq_70_22, bq_70_29]
  | some c =>
    obtain ⟨hc, rfl, -⟩ := ix_some (by omega) hx
    rw [← H4.1] at hc
    obtain ⟨cp, ak, cs, as, vs, h1, h2, h3, h4, h5, h6⟩ := H4.2 c hc
    have hc6 : c < 6 := by have := H4.1; omega
    obtain ⟨o, e1, e2⟩ := c_spotOf (T0 := T0) (MI := MI) (key := key) (o2 := none) (o3 := none) h1 h2 h3 hc6
    simp (decide := true) (disch := omega) only [Option.bind_some, xasI, xasL, xasR, xin_t, cond_true, cond_false, nI_clamp, k_0, k_1, k_2, k_3, k_4, k_5, k_6, k_40, k_60, k_500, k_10000, pk_mul, nI_add, nI_e0, nI_ee, nI_leI, nI_ltI, xbool0, xbool1, xbn0, xbn1, xb_0, xb_1, reduceIte, one0, Option.isNone_none, ne_eq, not_true_eq_false, not_false_eq_true, if_true, if_false, ite_not, Bool.true_and, Bool.and_true, List.getElem?_eq_getElem hc, Option.isNone_some, bq_70_5, bq_70_16, gC h1.1, e1]
    cases hk : ix key 10000 with
    | none =>
      rw [hk] at e2
      rw [e2]
      simp (decide := true) (disch := omega) only [Option.bind_some, xasI, xasL, xasR, xin_t, cond_true, cond_false, nI_clamp, k_0, k_1, k_2, k_3, k_4, k_5, k_6, k_40, k_60, k_500, k_10000, pk_mul, nI_add, nI_e0, nI_ee, nI_leI, nI_ltI, xbool0, xbool1, xbn0, xbn1, xb_0, xb_1, reduceIte, one0, Option.isNone_none, ne_eq, not_true_eq_false, not_false_eq_true, if_true, if_false, ite_not, Bool.true_and, Bool.and_true, Option.isNone_none, bq_70_22, bq_70_29]
    | some k =>
      rw [hk] at e2
      obtain ⟨s, e3, e4⟩ := e2
      obtain ⟨-, g0, g1, g2, g3, g4⟩ := sp_g e4
      rw [e3]
      simp (decide := true) (disch := omega) only [Option.bind_some, xasI, xasL, xasR, xin_t, cond_true, cond_false, nI_clamp, k_0, k_1, k_2, k_3, k_4, k_5, k_6, k_40, k_60, k_500, k_10000, pk_mul, nI_add, nI_e0, nI_ee, nI_leI, nI_ltI, xbool0, xbool1, xbn0, xbn1, xb_0, xb_1, reduceIte, one0, Option.isNone_none, ne_eq, not_true_eq_false, not_false_eq_true, if_true, if_false, ite_not, Bool.true_and, Bool.and_true, Option.isNone_some, bq_70_22, bq_70_32]
      rcases sw_cases what 4 (by decide) with ⟨h1, h2⟩ | ⟨j, hj, rfl⟩
      · rw [if_pos (show what.toInt < 0 ∨ (4 : Int) < what.toInt from h1), gsw_out (n := 4) (by simp) h2, bq_70_98]
      · rw [if_neg (by rw [nI_toInt (by omega)]; omega), nI_toInt (by omega)]
        have hg := gsw_in (d := Int32.ofInt (-9)) (r := [q.1 55 (10000 * c + k), q.1 56 (10000 * c + k), q.1 57 (10000 * c + k), q.1 58 (10000 * c + k), q.1 59 (10000 * c + k)]) (k := 0) (j := j) (by simp) (by simp; omega)
        rw [Nat.zero_add] at hg
        rw [hg]
        match j, hj with
        | 0, _ => show xZ T0 MI 70 68 _ _ _ = _; rw [bq_70_68, Option.bind_some, g0]; rfl
        | 1, _ => show xZ T0 MI 70 74 _ _ _ = _; rw [bq_70_74, Option.bind_some, g3]; rfl
        | 2, _ => show xZ T0 MI 70 80 _ _ _ = _; rw [bq_70_80, Option.bind_some, g4]; rfl
        | 3, _ => show xZ T0 MI 70 86 _ _ _ = _; rw [bq_70_86, Option.bind_some, g1]; rfl
        | 4, _ => show xZ T0 MI 70 92 _ _ _ = _; rw [bq_70_92, Option.bind_some, g2]; rfl
theorem P_answer {T0 MI X n : Nat} {q : xrho} {L : xLs} {M : xM} {ow : xOw} {x y what : Int32} {o4 o5 : Option xV} (H : RepE T0 X n q L M ow) (B : bds q) (hA : ∀ c j, c < nu q 45 0 → j < nu q 46 c → q.1 54 (60 * c + j) = 0 → q.1 49 (60 * c + j) = Int32.ofInt (-9)) : xZ T0 MI 68 0 [some (vr (some X)), some (vi x), some (vi y), some (vi what), o4, o5] [] M = some (some (vl (ganswer q x y what)), M) := by
  obtain ⟨ad, fh, fp, cl, ll, dl, aa, pk, H⟩ := H
  have H4 := H.2.2.2.2.1
  have H5 := H.2.2.2.2.2.1
  have b := B.1.2
  rw [bq_68_0, (ho_c H.2.1).1, cond_true, c_callerOf H.2.1 H4]
  unfold ganswer gcallO
  cases hx : ix x (nu q 45 0) with
  | none => simp (decide := true) (disch := omega) only [Option.bind_some, xasI, xasL, xasR, xin_t, cond_true, cond_false, nI_clamp, k_0, k_1, k_2, k_3, k_4, k_5, k_6, k_40, k_60, k_500, k_10000, pk_mul, nI_add, nI_e0, nI_ee, nI_leI, nI_ltI, xbool0, xbool1, xbn0, xbn1, xb_0, xb_1, reduceIte, one0, Option.isNone_none, ne_eq, not_true_eq_false, not_false_eq_true, if_true, if_false, ite_not, Bool.true_and, Bool.and_true, Option.bind_none, Option.isNone_none, bq_68_5, bq_68_12, bq_68_22, bq_68_29]
  | some c =>
    obtain ⟨hc, rfl, -⟩ := ix_some (by omega) hx
    rw [← H4.1] at hc
    obtain ⟨cp, ak, cs, as, vs, h1, h2, h3, h4, h5, h6⟩ := H4.2 c hc
    have hc6 : c < 6 := by have := H4.1; omega
    have hcn : c < nu q 45 0 := by rw [← H4.1]; exact hc
    have e1 := c_askOf (T0 := T0) (MI := MI) (q := q) (x := y) h1 hc6 h5 h6 (fun j hj => gC (H5 c j hcn hj).choose_spec.1.1)
    simp (decide := true) (disch := omega) only [Option.bind_some, xasI, xasL, xasR, xin_t, cond_true, cond_false, nI_clamp, k_0, k_1, k_2, k_3, k_4, k_5, k_6, k_40, k_60, k_500, k_10000, pk_mul, nI_add, nI_e0, nI_ee, nI_leI, nI_ltI, xbool0, xbool1, xbn0, xbn1, xb_0, xb_1, reduceIte, one0, Option.isNone_none, ne_eq, not_true_eq_false, not_false_eq_true, if_true, if_false, ite_not, Bool.true_and, Bool.and_true, List.getElem?_eq_getElem hc, Option.isNone_some, bq_68_5, bq_68_16, gC h1.1, e1]
    cases hk : ix y (nu q 46 c) with
    | none => simp (decide := true) (disch := omega) only [Option.bind_some, xasI, xasL, xasR, xin_t, cond_true, cond_false, nI_clamp, k_0, k_1, k_2, k_3, k_4, k_5, k_6, k_40, k_60, k_500, k_10000, pk_mul, nI_add, nI_e0, nI_ee, nI_leI, nI_ltI, xbool0, xbool1, xbn0, xbn1, xb_0, xb_1, reduceIte, one0, Option.isNone_none, ne_eq, not_true_eq_false, not_false_eq_true, if_true, if_false, ite_not, Bool.true_and, Bool.and_true, Option.map_none, Option.isNone_none, bq_68_22, bq_68_29]
    | some j =>
      have hj := (ix_some (by have := (B.2.1 c hc6).2; omega) hk).1
      obtain ⟨sg, ⟨g1, -, -⟩, g2⟩ := H5 c j hcn hj
      have hA := hA c j hcn hj
      simp (decide := true) (disch := omega) only [Option.bind_some, xasI, xasL, xasR, xin_t, cond_true, cond_false, nI_clamp, k_0, k_1, k_2, k_3, k_4, k_5, k_6, k_40, k_60, k_500, k_10000, pk_mul, nI_add, nI_e0, nI_ee, nI_leI, nI_ltI, xbool0, xbool1, xbn0, xbn1, xb_0, xb_1, reduceIte, one0, Option.isNone_none, ne_eq, not_true_eq_false, not_false_eq_true, if_true, if_false, ite_not, Bool.true_and, Bool.and_true, Option.map_some, Option.isNone_some, bq_68_22, bq_68_33]
      rcases sw_cases what 5 (by decide) with ⟨h1, h2⟩ | ⟨k, hk, rfl⟩
      · rw [if_pos (show what.toInt < 0 ∨ (5 : Int) < what.toInt from h1), gsw_out (n := 5) (by simp) h2, bq_68_134]
      · rw [if_neg (by rw [nI_toInt (by omega)]; omega), nI_toInt (by omega)]
        have hg := gsw_in (d := xcL 18446744073709551607) (r := [if q.1 54 (60 * c + j) = 0 then Int64.ofNat 0 else Int64.ofNat 1, q.2 53 (60 * c + j), (q.1 49 (60 * c + j)).toInt64, (q.1 48 (60 * c + j)).toInt64, (q.1 47 (60 * c + j)).toInt64, (q.1 50 (60 * c + j)).toInt64]) (k := 0) (j := k) (by simp) (by simp; omega)
        rw [Nat.zero_add] at hg
        rw [hg]
        match k, hk with
        | 0, _ =>
          show xZ T0 MI 68 72 _ _ _ = some (some (vl (if q.1 54 (60 * c + j) = 0 then Int64.ofNat 0 else Int64.ofNat 1)), M)
          rw [bq_68_72, Option.bind_some, gI g1 5 rfl, Option.bind_some]
          by_cases h0 : q.1 54 (60 * c + j) = 0
          · rw [if_pos h0, if_pos h0, bq_68_84, bq_68_85]
          · rw [if_neg h0, if_neg h0, bq_68_80, bq_68_85]
        | 1, _ => show xZ T0 MI 68 86 _ _ _ = _; rw [bq_68_86, Option.bind_some, gL g1 6 rfl]; rfl
        | 2, _ =>
          show xZ T0 MI 68 92 _ _ _ = some (some (vl (q.1 49 (60 * c + j)).toInt64), M)
          rw [bq_68_92, Option.bind_some, gI g1 5 rfl, Option.bind_some]
          by_cases h0 : q.1 54 (60 * c + j) = 0
          · rw [if_pos h0, bq_68_109, bq_68_112, hA h0]
            rfl
          · rw [if_neg h0, bq_68_100, Option.bind_some, gI g1 7 rfl, Option.bind_some, bq_68_112, g2 h0]
        | 3, _ => show xZ T0 MI 68 113 _ _ _ = _; rw [bq_68_113, Option.bind_some, gI g1 2 rfl]; rfl
        | 4, _ => show xZ T0 MI 68 120 _ _ _ = _; rw [bq_68_120, Option.bind_some, gI g1 1 rfl]; rfl
        | 5, _ => show xZ T0 MI 68 127 _ _ _ = _; rw [bq_68_127, Option.bind_some, gI g1 8 rfl]; rfl
