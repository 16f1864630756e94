/-! correct: spots that share, the rests -/
abbrev svSh (v w : SV) : Prop := v.2.1 < w.2.2.1 ∧ w.2.1 < v.2.2.1
def spV (M : xM) (ow : xOw) (s : Nat) (v : SV) : Prop := isSpot M ow s v.1 (nI v.2.1) (nI v.2.2.1) v.2.2.2.1 v.2.2.2.2
theorem c_shares {T0 MI s s' : Nat} {M : xM} {ow : xOw} {v w : SV} (S : spV M ow s v) (S' : spV M ow s' w) (hv : v.2.1 ≤ 10000 ∧ v.2.2.1 ≤ 10000) (hw : w.2.1 ≤ 10000 ∧ w.2.2.1 ≤ 10000) : xZ T0 MI 61 0 [some (vr (some s)), some (vr (some s'))] [] M = some (some (vi (tI (svSh v w))), M) := by
  obtain ⟨-, -, a1, a2, -⟩ := sp_g S
  obtain ⟨-, -, b1, b2, -⟩ := sp_g S'
  obtain ⟨hv1, hv2⟩ := hv
  obtain ⟨hw1, hw2⟩ := hw
  rw [bq_61_0, a1, Option.bind_some, Option.bind_some, b2, Option.bind_some]
  by_cases c1 : v.2.1 < w.2.2.1
  · rw [if_neg (by rw [nI_leI (by omega) (by omega)]; omega), bq_61_11, Option.bind_some, b1, Option.bind_some, a2, Option.bind_some]
    by_cases c2 : w.2.1 < v.2.2.1
    · rw [if_neg (by rw [nI_leI (by omega) (by omega)]; omega), tI_t ⟨c1, c2⟩, bq_61_22, bq_61_27]; rfl
    · rw [if_pos (by rw [nI_leI (by omega) (by omega)]; omega), tI_f (fun h => c2 h.2), bq_61_26, bq_61_27]; rfl
  · rw [if_pos (by rw [nI_leI (by omega) (by omega)]; omega), tI_f (fun h => c1 h.1), bq_61_26, bq_61_27]; rfl
theorem c_within {T0 MI s : Nat} {M : xM} {ow : xOw} {v : SV} {x y : Nat} (S : spV M ow s v) : ∃ M', xZ T0 MI 63 0 [some (vr (some s)), some (vi (nI x)), some (vi (nI y))] [] M = some (some (vr (some M.1)), M') ∧ spV M' (va_up ow M.1 (9999, 0)) M.1 (v.1, x, y, v.2.2.2.1, v.2.2.2.2) ∧ ∀ P, stp P 1 5 ow M (va_up ow M.1 (9999, 0)) M' := by
  obtain ⟨M', e1, s1, t1⟩ := c_newSp (T0 := T0) (MI := MI) (M := M) (ow := ow) (n := v.1) (lo := nI x) (hi := nI y) (e := v.2.2.2.1) (h := v.2.2.2.2)
  have c := newO_c (c := 10) S.1 S.2.2
  refine ⟨M', ?_, s1, t1⟩
  rw [bq_63_0, gI c 0 rfl, Option.bind_some, gI c 3 rfl, Option.bind_some, gI c 4 rfl, Option.bind_some, e1]
  simp (decide := true) (disch := omega) only [Option.bind_some, xasI, xasL, xasR, xin_t, cond_true, cond_false, nI_clamp, k_0, k_1, k_2, k_3, k_4, k_5, k_6, k_40, k_60, k_500, k_10000, pk_mul, nI_add, nI_e0, nI_ee, nI_leI, nI_ltI, xbool0, xbool1, xbn0, xbn1, xb_0, xb_1, reduceIte, one0, Option.isNone_none, ne_eq, not_true_eq_false, not_false_eq_true, if_true, if_false, ite_not, Bool.true_and, Bool.and_true]
  rw [bq_63_21]
/-- the rests of v beside t -/
def svL (v t : SV) : List SV := if v.2.1 < t.2.1 then [(v.1, v.2.1, t.2.1, v.2.2.2.1, v.2.2.2.2)] else []
def svR (v t : SV) : List SV := if t.2.2.1 < v.2.2.1 then [(v.1, t.2.2.1, v.2.2.1, v.2.2.2.1, v.2.2.2.2)] else []
def npc (v t : SV) : Nat := (if v.2.1 < t.2.1 then 1 else 0) + (if t.2.2.1 < v.2.2.1 then 1 else 0)
theorem c_addSp {T0 MI c a cp ak s : Nat} {M : xM} {ow : xOw} {cs as : List Nat} {vs : List SV} {v : SV} (H : oCa T0 M ow c a cp ak cs as) (hS : sps M ow cs vs) (hc : c < 6) (hl : vs.length ≤ 1990) (S : spV M ow s v) : ∃ M' ow', xZ T0 MI 210 0 [some (vr (some cp)), some (vr (some s))] [] M = some (some (vi 1), M') ∧ oCa T0 M' ow' c a cp ak (cs ++ [s]) as ∧ sps M' ow' (cs ++ [s]) (vs ++ [v]) ∧ stp (fun t => ¬ inP (500 + c) 1 2 t) 1 (2 * vs.length + 10) ow M ow' M' := by
  have l1 := H.2.2.2.1
  have o1 := (oL_c l1).2.1
  have el := hS.1
  obtain ⟨M', ow', e, l2, t⟩ := oL_add (T0 := T0) (MI := MI) (v := s) (by omega) l1 (by omega) ⟨10, _, S.1, by decide⟩ S.2.2 (ow_ne S.2.1 o1 (by simp)) (fun z hz => by
    obtain ⟨x1, x2, x3⟩ := sps_obj hS z hz
    exact ⟨x1, x2, ow_ne x3 o1 (by simp)⟩)
  have h9 : ∀ t : Nat × Nat, t.1 = 9999 → ¬ inP (500 + c) 1 2 t := fun t ht e => by have := e.1; omega
  rw [el] at t
  exact ⟨M', ow', e, oCa_l1 H l2 t, sps_snoc (sps_f hS t h9) (isSpot_f S t h9), t⟩
theorem c_keepRest {T0 MI c a cp ak s s' : Nat} {M : xM} {ow : xOw} {cs as : List Nat} {vs : List SV} {v t : SV} (H : oCa T0 M ow c a cp ak cs as) (hS : sps M ow cs vs) (hc : c < 6) (hl : vs.length ≤ 1980) (S : spV M ow s v) (S' : spV M ow s' t) (hv : v.2.1 ≤ 10000 ∧ v.2.2.1 ≤ 10000) (ht : t.2.1 ≤ 10000 ∧ t.2.2.1 ≤ 10000) : ∃ M' ow' cs', xZ T0 MI 6 0 [some (vr (some a)), some (vr (some s)), some (vr (some s'))] [] M = some (none, M') ∧ oCa T0 M' ow' c a cp ak cs' as ∧ sps M' ow' cs' (vs ++ (svL v t ++ svR v t)) ∧ stp (fun t => ¬ inP (500 + c) 1 2 t) (2 * npc v t) (npc v t * (2 * vs.length + 20)) ow M ow' M' := by
  have h9 : ∀ t : Nat × Nat, t.1 = 9999 → ¬ inP (500 + c) 1 2 t := fun t ht e => by have := e.1; omega
  obtain ⟨-, -, a1, a2, -⟩ := sp_g S
  obtain ⟨-, -, b1, b2, -⟩ := sp_g S'
  obtain ⟨hv1, hv2⟩ := hv
  obtain ⟨ht1, ht2⟩ := ht
  -- the lower rest
  have st1 : ∃ M1 ow1 cs1, xZ T0 MI 6 0 [some (vr (some a)), some (vr (some s)), some (vr (some s'))] [] M = xZ T0 MI 6 31 [some (vr (some a)), some (vr (some s)), some (vr (some s'))] [] M1 ∧ oCa T0 M1 ow1 c a cp ak cs1 as ∧ sps M1 ow1 cs1 (vs ++ svL v t) ∧ stp (fun t => ¬ inP (500 + c) 1 2 t) (2 * (if v.2.1 < t.2.1 then 1 else 0)) ((if v.2.1 < t.2.1 then 1 else 0) * (2 * vs.length + 20)) ow M ow1 M1 := by
    rw [bq_6_0, Option.bind_some, a1, Option.bind_some, Option.bind_some, b1, Option.bind_some]
    unfold svL
    by_cases c1 : v.2.1 < t.2.1
    · rw [if_neg (by rw [nI_leI (by omega) (by omega)]; omega), if_pos c1, if_pos c1]
      obtain ⟨M1, w1, sp1, t1⟩ := c_within (T0 := T0) (MI := MI) (x := v.2.1) (y := t.2.1) S
      obtain ⟨M2, ow2, e2, H2, S2, t2⟩ := c_addSp (T0 := T0) (MI := MI) (oCa_f H (t1 (fun _ => True)) (fun _ _ => trivial) (fun _ _ => trivial)) (sps_f hS (t1 (fun _ => True)) (fun _ _ => trivial)) hc (by omega) sp1
      refine ⟨M2, ow2, cs ++ [M.1], ?_, H2, S2, stp_w (stp_tr (t1 _) t2) (fun _ h => h) (by omega) (by omega)⟩
      have H1c := oCa_f H (t1 (fun _ => True)) (fun _ _ => trivial) (fun _ _ => trivial)
      rw [bq_6_11, gR H.1 1 rfl, Option.bind_some, Option.bind_some, a1, Option.bind_some, Option.bind_some, b1, Option.bind_some, Option.bind_some, (sp_g S).1, cond_true, w1]
      simp (decide := true) (disch := omega) only [Option.bind_some, xasI, xasL, xasR, xin_t, cond_true, cond_false, nI_clamp, k_0, k_1, k_2, k_3, k_4, k_5, k_6, k_40, k_60, k_500, k_10000, pk_mul, nI_add, nI_e0, nI_ee, nI_leI, nI_ltI, xbool0, xbool1, xbn0, xbn1, xb_0, xb_1, reduceIte, one0, Option.isNone_none, ne_eq, not_true_eq_false, not_false_eq_true, if_true, if_false, ite_not, Bool.true_and, Bool.and_true]
      rw [bq_6_27, Option.bind_some, (oL_c H1c.2.2.2.1).1, cond_true, e2]
      simp (decide := true) (disch := omega) only [Option.bind_some, xasI, xasL, xasR, xin_t, cond_true, cond_false, nI_clamp, k_0, k_1, k_2, k_3, k_4, k_5, k_6, k_40, k_60, k_500, k_10000, pk_mul, nI_add, nI_e0, nI_ee, nI_leI, nI_ltI, xbool0, xbool1, xbn0, xbn1, xb_0, xb_1, reduceIte, one0, Option.isNone_none, ne_eq, not_true_eq_false, not_false_eq_true, if_true, if_false, ite_not, Bool.true_and, Bool.and_true]
      rw [bq_6_30]
    · rw [if_pos (by rw [nI_leI (by omega) (by omega)]; omega), if_neg c1, if_neg c1, List.append_nil]
      exact ⟨M, ow, cs, rfl, H, hS, stp_w (stp_rf _ _ _) (fun _ h => h) (by omega) (by omega)⟩
  obtain ⟨M1, ow1, cs1, e1, H1, S1, t1⟩ := st1
  have Sx := isSpot_f S t1 h9
  have Sx' := isSpot_f S' t1 h9
  obtain ⟨-, -, a1', a2', -⟩ := sp_g Sx
  obtain ⟨-, -, b1', b2', -⟩ := sp_g Sx'
  have ll1 : (vs ++ svL v t).length ≤ vs.length + 1 := by
    rw [List.length_append]
    unfold svL
    split <;> simp
  unfold npc
  rw [e1, bq_6_31, Option.bind_some, a2', Option.bind_some, Option.bind_some, b2', Option.bind_some, ← List.append_assoc]
  unfold svR
  by_cases c2 : t.2.2.1 < v.2.2.1
  · rw [if_neg (by rw [nI_leI (by omega) (by omega)]; omega), if_pos c2, if_pos c2]
    obtain ⟨M2, w2, sp2, t2⟩ := c_within (T0 := T0) (MI := MI) (x := t.2.2.1) (y := v.2.2.1) Sx
    have H2c := oCa_f H1 (t2 (fun _ => True)) (fun _ _ => trivial) (fun _ _ => trivial)
    obtain ⟨M3, ow3, e3, H3, S3, t3⟩ := c_addSp (T0 := T0) (MI := MI) H2c (sps_f S1 (t2 (fun _ => True)) (fun _ _ => trivial)) hc (by omega) sp2
    refine ⟨M3, ow3, cs1 ++ [M1.1], ?_, H3, S3, stp_w (stp_tr t1 (stp_tr (t2 _) t3)) (fun _ h => h) ?_ ?_⟩
    · rw [bq_6_42, gR H1.1 1 rfl, Option.bind_some, Option.bind_some, b2', Option.bind_some, Option.bind_some, a2', Option.bind_some, Option.bind_some, (sp_g Sx).1, cond_true, w2]
      simp (decide := true) (disch := omega) only [Option.bind_some, xasI, xasL, xasR, xin_t, cond_true, cond_false, nI_clamp, k_0, k_1, k_2, k_3, k_4, k_5, k_6, k_40, k_60, k_500, k_10000, pk_mul, nI_add, nI_e0, nI_ee, nI_leI, nI_ltI, xbool0, xbool1, xbn0, xbn1, xb_0, xb_1, reduceIte, one0, Option.isNone_none, ne_eq, not_true_eq_false, not_false_eq_true, if_true, if_false, ite_not, Bool.true_and, Bool.and_true]
      rw [bq_6_58, Option.bind_some, (oL_c H2c.2.2.2.1).1, cond_true, e3]
      simp (decide := true) (disch := omega) only [Option.bind_some, xasI, xasL, xasR, xin_t, cond_true, cond_false, nI_clamp, k_0, k_1, k_2, k_3, k_4, k_5, k_6, k_40, k_60, k_500, k_10000, pk_mul, nI_add, nI_e0, nI_ee, nI_leI, nI_ltI, xbool0, xbool1, xbn0, xbn1, xb_0, xb_1, reduceIte, one0, Option.isNone_none, ne_eq, not_true_eq_false, not_false_eq_true, if_true, if_false, ite_not, Bool.true_and, Bool.and_true]
      rw [bq_6_61, bq_6_62]
    · omega
    · split <;> omega
  · rw [if_pos (by rw [nI_leI (by omega) (by omega)]; omega), if_neg c2, if_neg c2, List.append_nil]
    exact ⟨M1, ow1, cs1, by rw [bq_6_62], H1, S1, stp_w t1 (fun _ h => h) (by omega) (by rw [Nat.add_zero]; exact Nat.le_refl _)⟩
/-! the first loop: is it newer? -/
theorem c_corr1 {T0 MI c a cp ak s' : Nat} {M : xM} {ow : xOw} {cs as : List Nat} {vs : List SV} {t : SV} (H : oCa T0 M ow c a cp ak cs as) (hS : sps M ow cs vs) (hc : c < 6) (S' : spV M ow s' t) (hv : ∀ v ∈ vs, v.2.1 ≤ 10000 ∧ v.2.2.1 ≤ 10000) (ht : t.2.1 ≤ 10000 ∧ t.2.2.1 ≤ 10000) : ∀ m i, i + m = vs.length → ∀ o3 : Option xV, ((∃ j, ∃ hj : j < vs.length, i ≤ j ∧ svSh vs[j] t ∧ ¬ vs[j].2.2.2.1 < t.2.2.2.1) ∧ xZ T0 MI 5 2 [some (vr (some a)), some (vr (some s')), some (vi (nI i)), o3] [] M = some (none, M)) ∨ ((∀ j (hj : j < vs.length), i ≤ j → svSh vs[j] t → vs[j].2.2.2.1 < t.2.2.2.1) ∧ ∃ o2' o3', xZ T0 MI 5 2 [some (vr (some a)), some (vr (some s')), some (vi (nI i)), o3] [] M = xZ T0 MI 5 51 [some (vr (some a)), some (vr (some s')), o2', o3'] [] M) := by
  obtain ⟨h1, o1, b1, l1, l2⟩ := H
  have hb := (oL_c l1).2.2.2
  have g1 : xgetR M a 1 1 = some (some cp) := gR h1 1 rfl
  have el := hS.1
  intro m
  induction m with
  | zero =>
    intro i hi o3
    refine Or.inr ⟨fun j hj hij => absurd hj (by omega), some (vi (nI i)), o3, ?_⟩
    rw [bq_5_2, g1, Option.bind_some, Option.bind_some, (oL_c l1).1, cond_true, oL_size l1]
    simp (decide := true) (disch := omega) only [Option.bind_some, xasI, xasL, xasR, xin_t, cond_true, cond_false, nI_clamp, k_0, k_1, k_2, k_3, k_4, k_5, k_6, k_40, k_60, k_500, k_10000, pk_mul, nI_add, nI_e0, nI_ee, nI_leI, nI_ltI, xbool0, xbool1, xbn0, xbn1, xb_0, xb_1, reduceIte, one0, Option.isNone_none, ne_eq, not_true_eq_false, not_false_eq_true, if_true, if_false, ite_not, Bool.true_and, Bool.and_true]
    rw [bq_5_10, if_pos (by rw [nI_leI (by omega) (by omega)]; omega)]
  | succ m ih =>
    intro i hi o3
    have hiv : i < vs.length := by omega
    have hii : i < cs.length := by omega
    have sp : spV M ow cs[i] vs[i] := hS.2 i hii hiv
    have sh := c_shares (T0 := T0) (MI := MI) sp S' (hv _ (List.getElem_mem hiv)) ht
    have st : xZ T0 MI 5 2 [some (vr (some a)), some (vr (some s')), some (vi (nI i)), o3] [] M = xZ T0 MI 5 30 [some (vr (some a)), some (vr (some s')), some (vi (nI i)), some (vr (some cs[i]))] [vi (tI (svSh vs[i] t))] M := by
      rw [bq_5_2, g1, Option.bind_some, Option.bind_some, (oL_c l1).1, cond_true, oL_size l1]
      simp (decide := true) (disch := omega) only [Option.bind_some, xasI, xasL, xasR, xin_t, cond_true, cond_false, nI_clamp, k_0, k_1, k_2, k_3, k_4, k_5, k_6, k_40, k_60, k_500, k_10000, pk_mul, nI_add, nI_e0, nI_ee, nI_leI, nI_ltI, xbool0, xbool1, xbn0, xbn1, xb_0, xb_1, reduceIte, one0, Option.isNone_none, ne_eq, not_true_eq_false, not_false_eq_true, if_true, if_false, ite_not, Bool.true_and, Bool.and_true]
      rw [bq_5_10, if_neg (by rw [nI_leI (by omega) (by omega)]; omega), bq_5_13, g1, Option.bind_some, Option.bind_some, (oL_c l1).1, cond_true, oL_get (by omega) l1 hii]
      simp (decide := true) (disch := omega) only [Option.bind_some, xasI, xasL, xasR, xin_t, cond_true, cond_false, nI_clamp, k_0, k_1, k_2, k_3, k_4, k_5, k_6, k_40, k_60, k_500, k_10000, pk_mul, nI_add, nI_e0, nI_ee, nI_leI, nI_ltI, xbool0, xbool1, xbn0, xbn1, xb_0, xb_1, reduceIte, one0, Option.isNone_none, ne_eq, not_true_eq_false, not_false_eq_true, if_true, if_false, ite_not, Bool.true_and, Bool.and_true]
      rw [bq_5_21]
      dsimp only
      rw [(sp_g sp).1, cond_true, cond_true, sh]
      simp (decide := true) (disch := omega) only [Option.bind_some, xasI, xasL, xasR, xin_t, cond_true, cond_false, nI_clamp, k_0, k_1, k_2, k_3, k_4, k_5, k_6, k_40, k_60, k_500, k_10000, pk_mul, nI_add, nI_e0, nI_ee, nI_leI, nI_ltI, xbool0, xbool1, xbn0, xbn1, xb_0, xb_1, reduceIte, one0, Option.isNone_none, ne_eq, not_true_eq_false, not_false_eq_true, if_true, if_false, ite_not, Bool.true_and, Bool.and_true]
    have go : (svSh vs[i] t → vs[i].2.2.2.1 < t.2.2.2.1) → xZ T0 MI 5 2 [some (vr (some a)), some (vr (some s')), some (vi (nI i)), o3] [] M = xZ T0 MI 5 2 [some (vr (some a)), some (vr (some s')), some (vi (nI (i + 1))), some (vr (some cs[i]))] [] M → ((∃ j, ∃ hj : j < vs.length, i ≤ j ∧ svSh vs[j] t ∧ ¬ vs[j].2.2.2.1 < t.2.2.2.1) ∧ xZ T0 MI 5 2 [some (vr (some a)), some (vr (some s')), some (vi (nI i)), o3] [] M = some (none, M)) ∨ ((∀ j (hj : j < vs.length), i ≤ j → svSh vs[j] t → vs[j].2.2.2.1 < t.2.2.2.1) ∧ ∃ o2' o3', xZ T0 MI 5 2 [some (vr (some a)), some (vr (some s')), some (vi (nI i)), o3] [] M = xZ T0 MI 5 51 [some (vr (some a)), some (vr (some s')), o2', o3'] [] M) := fun hok hst => by
      rw [hst]
      rcases ih (i + 1) (by omega) (some (vr (some cs[i]))) with ⟨⟨j, hj, x1, x2⟩, e⟩ | ⟨x1, x2⟩
      · exact Or.inl ⟨⟨j, hj, by omega, x2⟩, e⟩
      · refine Or.inr ⟨fun j hj hij => ?_, x2⟩
        by_cases ej : j = i
        · subst ej
          exact hok
        · exact x1 j hj (by omega)
    by_cases c1 : svSh vs[i] t
    · by_cases c2 : vs[i].2.2.2.1 < t.2.2.2.1
      · refine go (fun _ => c2) ?_
        rw [st, tI_t c1, bq_5_30, if_neg one0, bq_5_33, Option.bind_some, (sp_g sp).2.2.2.2.1, Option.bind_some, Option.bind_some, (sp_g S').2.2.2.2.1, Option.bind_some, if_pos c2, bq_5_45, nI_s]
      · refine Or.inl ⟨⟨i, hiv, Nat.le_refl _, c1, c2⟩, ?_⟩
        rw [st, tI_t c1, bq_5_30, if_neg one0, bq_5_33, Option.bind_some, (sp_g sp).2.2.2.2.1, Option.bind_some, Option.bind_some, (sp_g S').2.2.2.2.1, Option.bind_some, if_neg c2, bq_5_44]
    · refine go (fun h => absurd h c1) ?_
      rw [st, tI_f c1, bq_5_30, if_pos rfl, bq_5_45, nI_s]
/-! the second loop: out with those that share -/
def npcs (t : SV) (l : List SV) : Nat := (l.map (fun v => if svSh v t then npc v t else 0)).sum
def nsh (t : SV) (l : List SV) : Nat := (l.map (fun v => if svSh v t then 1 else 0)).sum
theorem npcs_app (t : SV) (l : List SV) (v : SV) : npcs t (l ++ [v]) = npcs t l + (if svSh v t then npc v t else 0) := by
  unfold npcs
  rw [List.map_append, List.sum_append]
  simp
theorem nsh_app (t : SV) (l : List SV) (v : SV) : nsh t (l ++ [v]) = nsh t l + (if svSh v t then 1 else 0) := by
  unfold nsh
  rw [List.map_append, List.sum_append]
  simp
/-- what the second loop makes of vs, from the end -/
def corR (t : SV) : Nat → List SV → List SV → List SV
  | 0, _, r => r
  | j + 1, vs, r => match vs[j]? with
    | none => r
    | some v => corR t j vs (if svSh v t then r ++ (svL v t ++ svR v t) else v :: r)
theorem sps_erase {M : xM} {ow : xOw} {cs : List Nat} {vs : List SV} {i : Nat} (H : sps M ow cs vs) (hi : i < vs.length) : sps M ow (cs.eraseIdx i) (vs.eraseIdx i) := by
  obtain ⟨h1, h2⟩ := H
  refine ⟨by rw [List.length_eraseIdx, List.length_eraseIdx, h1], fun j j1 j2 => ?_⟩
  rw [List.length_eraseIdx_of_lt hi] at j2
  by_cases c : j < i
  · have e1 : (cs.eraseIdx i)[j] = cs[j]'(by omega) := by rw [List.getElem_eraseIdx_of_lt _ c]
    have e2 : (vs.eraseIdx i)[j] = vs[j]'(by omega) := by rw [List.getElem_eraseIdx_of_lt _ c]
    rw [e1, e2]
    exact h2 j (by omega) (by omega)
  · have e1 : (cs.eraseIdx i)[j] = cs[j + 1]'(by omega) := by rw [List.getElem_eraseIdx_of_ge _ (by omega)]
    have e2 : (vs.eraseIdx i)[j] = vs[j + 1]'(by omega) := by rw [List.getElem_eraseIdx_of_ge _ (by omega)]
    rw [e1, e2]
    exact h2 (j + 1) (by omega) (by omega)
theorem c_corr2 {T0 MI c a cp ak s' : Nat} {as : List Nat} {vs : List SV} {t : SV} (hc : c < 6) (hv : ∀ v ∈ vs, v.2.1 ≤ 10000 ∧ v.2.2.1 ≤ 10000) (ht : t.2.1 ≤ 10000 ∧ t.2.2.1 ≤ 10000) (hl : vs.length ≤ 1900) : ∀ j, j ≤ vs.length → ∀ (M : xM) (ow : xOw) (cs : List Nat) (r : List SV) (o3 : Option xV), oCa T0 M ow c a cp ak cs as → sps M ow cs (vs.take j ++ r) → spV M ow s' t → j + r.length + npcs t (vs.take j) ≤ vs.length + 2 → ∃ M' ow' cs' o2' o3', xZ T0 MI 5 61 [some (vr (some a)), some (vr (some s')), some (vi (nI j - nI 1)), o3] [] M = xZ T0 MI 5 106 [some (vr (some a)), some (vr (some s')), o2', o3'] [] M' ∧ oCa T0 M' ow' c a cp ak cs' as ∧ sps M' ow' cs' (corR t j vs r) ∧ spV M' ow' s' t ∧ stp (fun t => ¬ inP (500 + c) 1 2 t) (2 * npcs t (vs.take j)) (npcs t (vs.take j) * (2 * vs.length + 30)) ow M ow' M' := by
  have h9 : ∀ t : Nat × Nat, t.1 = 9999 → ¬ inP (500 + c) 1 2 t := fun t ht e => by have := e.1; omega
  intro j
  induction j with
  | zero =>
    intro _ M ow cs r o3 H hS S' hb
    refine ⟨M, ow, cs, some (vi (nI 0 - nI 1)), o3, ?_, H, hS, S', stp_w (stp_rf _ _ _) (fun _ h => h) (Nat.zero_le _) (Nat.zero_le _)⟩
    rw [bq_5_61, if_pos (by decide)]
  | succ j ih =>
    intro hj M ow cs r o3 H hS S' hb
    have hjv : j < vs.length := by omega
    have et : vs.take (j + 1) = vs.take j ++ [vs[j]] := by rw [List.take_succ_eq_append_getElem hjv]
    have tl : (vs.take j).length = j := by rw [List.length_take]; omega
    have el := hS.1
    rw [et, List.append_assoc, List.length_append, tl, List.length_append, List.length_singleton] at el
    have hjc : j < cs.length := by omega
    have np := npcs_app t (vs.take j) vs[j]
    rw [← et] at np
    have ev : (vs.take (j + 1) ++ r)[j]'(by rw [List.length_append, List.length_take]; omega) = vs[j] := by
      rw [List.getElem_append_left (by rw [List.length_take]; omega), List.getElem_take]
    have sp : spV M ow cs[j] vs[j] := by
      have := hS.2 j hjc (by rw [List.length_append, List.length_take]; omega)
      rw [ev] at this
      exact this
    have l1 := H.2.2.2.1
    have o1 := (oL_c l1).2.1
    have g1 : xgetR M a 1 1 = some (some cp) := gR H.1 1 rfl
    have sh := c_shares (T0 := T0) (MI := MI) sp S' (hv _ (List.getElem_mem hjv)) ht
    have e1 : nI (j + 1) - nI 1 = nI j := nI_s1 _
    have st : xZ T0 MI 5 61 [some (vr (some a)), some (vr (some s')), some (vi (nI (j + 1) - nI 1)), o3] [] M = xZ T0 MI 5 82 [some (vr (some a)), some (vr (some s')), some (vi (nI j)), some (vr (some cs[j]))] [vi (tI (svSh vs[j] t))] M := by
      rw [e1, bq_5_61, if_neg (nlt0 (by omega)), bq_5_65, g1, Option.bind_some, Option.bind_some, (oL_c l1).1, cond_true, oL_get (by omega) l1 hjc]
      simp (decide := true) (disch := omega) only [Option.bind_some, xasI, xasL, xasR, xin_t, cond_true, cond_false, nI_clamp, k_0, k_1, k_2, k_3, k_4, k_5, k_6, k_40, k_60, k_500, k_10000, pk_mul, nI_add, nI_e0, nI_ee, nI_leI, nI_ltI, xbool0, xbool1, xbn0, xbn1, xb_0, xb_1, reduceIte, one0, Option.isNone_none, ne_eq, not_true_eq_false, not_false_eq_true, if_true, if_false, ite_not, Bool.true_and, Bool.and_true]
      rw [bq_5_73]
      dsimp only
      rw [(sp_g sp).1, cond_true, cond_true, sh]
      simp (decide := true) (disch := omega) only [Option.bind_some, xasI, xasL, xasR, xin_t, cond_true, cond_false, nI_clamp, k_0, k_1, k_2, k_3, k_4, k_5, k_6, k_40, k_60, k_500, k_10000, pk_mul, nI_add, nI_e0, nI_ee, nI_leI, nI_ltI, xbool0, xbool1, xbn0, xbn1, xb_0, xb_1, reduceIte, one0, Option.isNone_none, ne_eq, not_true_eq_false, not_false_eq_true, if_true, if_false, ite_not, Bool.true_and, Bool.and_true]
    have ec : corR t (j + 1) vs r = corR t j vs (if svSh vs[j] t then r ++ (svL vs[j] t ++ svR vs[j] t) else vs[j] :: r) := by
      show (match vs[j]? with
        | none => r
        | some v => corR t j vs (if svSh v t then r ++ (svL v t ++ svR v t) else v :: r)) = _
      rw [List.getElem?_eq_getElem hjv]
    rw [ec, st]
    by_cases c1 : svSh vs[j] t
    · rw [if_pos c1] at np ⊢
      obtain ⟨M1, er, lr, s1⟩ := oL_remove (T0 := T0) (MI := MI) (i := j) (o2 := none) (o3 := none) (by omega) l1 hjc (fun z hz => by
        obtain ⟨x1, x2, x3⟩ := sps_obj hS z hz
        exact ⟨x1, ow_ne x3 o1 (by simp)⟩)
      have H1 := oCa_l1 H lr s1
      have S1 : sps M1 ow (cs.eraseIdx j) (vs.take j ++ r) := by
        have := sps_erase (sps_f hS s1 h9) (i := j) (by rw [List.length_append, List.length_take]; omega)
        rw [et, List.append_assoc, List.eraseIdx_append_of_length_le (by omega), tl, Nat.sub_self] at this
        exact this
      have lb : (vs.take j ++ r).length = j + r.length := by rw [List.length_append, tl]
      obtain ⟨M2, ow2, cs2, ek, H2, S2, s2⟩ := c_keepRest (T0 := T0) (MI := MI) H1 S1 hc (by omega) (isSpot_f sp s1 h9) (isSpot_f S' s1 h9) (hv _ (List.getElem_mem hjv)) ht
      have nl : npc vs[j] t = (svL vs[j] t ++ svR vs[j] t).length := by
        unfold npc svL svR
        rw [List.length_append]
        split <;> split <;> rfl
      obtain ⟨M3, ow3, cs3, o2', o3', e3, H3, S3, S3', s3⟩ := ih (by omega) M2 ow2 cs2 (r ++ (svL vs[j] t ++ svR vs[j] t)) (some (vr (some cs[j]))) H2 (by rw [← List.append_assoc]; exact S2) (isSpot_f (isSpot_f S' s1 h9) s2 h9) (by rw [List.length_append, ← nl]; omega)
      refine ⟨M3, ow3, cs3, o2', o3', ?_, H3, S3, S3', stp_w (stp_tr (stp_tr s1 s2) s3) (fun _ h => h) (by omega) ?_⟩
      · rw [tI_t c1, bq_5_82, if_neg one0, bq_5_85, g1, Option.bind_some, Option.bind_some, (oL_c l1).1, cond_true, er]
        simp (decide := true) (disch := omega) only [Option.bind_some, xasI, xasL, xasR, xin_t, cond_true, cond_false, nI_clamp, k_0, k_1, k_2, k_3, k_4, k_5, k_6, k_40, k_60, k_500, k_10000, pk_mul, nI_add, nI_e0, nI_ee, nI_leI, nI_ltI, xbool0, xbool1, xbn0, xbn1, xb_0, xb_1, reduceIte, one0, Option.isNone_none, ne_eq, not_true_eq_false, not_false_eq_true, if_true, if_false, ite_not, Bool.true_and, Bool.and_true]
        rw [bq_5_93, gC H1.1, cond_true, ek]
        simp (decide := true) (disch := omega) only [Option.bind_some, xasI, xasL, xasR, xin_t, cond_true, cond_false, nI_clamp, k_0, k_1, k_2, k_3, k_4, k_5, k_6, k_40, k_60, k_500, k_10000, pk_mul, nI_add, nI_e0, nI_ee, nI_leI, nI_ltI, xbool0, xbool1, xbn0, xbn1, xb_0, xb_1, reduceIte, one0, Option.isNone_none, ne_eq, not_true_eq_false, not_false_eq_true, if_true, if_false, ite_not, Bool.true_and, Bool.and_true]
        rw [bq_5_100, dec1]
        exact e3
      · rw [np, Nat.add_mul]
        have h1 : npc vs[j] t * (2 * (vs.take j ++ r).length + 20) ≤ npc vs[j] t * (2 * vs.length + 30) := Nat.mul_le_mul_left _ (by omega)
        omega
    · rw [if_neg c1] at np ⊢
      obtain ⟨M3, ow3, cs3, o2', o3', e3, H3, S3, S3', s3⟩ := ih (by omega) M ow cs (vs[j] :: r) (some (vr (some cs[j]))) H (by rw [et, List.append_assoc] at hS; exact hS) S' (by rw [List.length_cons]; omega)
      refine ⟨M3, ow3, cs3, o2', o3', ?_, H3, S3, S3', by rw [np, Nat.add_zero]; exact s3⟩
      rw [tI_f c1, bq_5_82, if_pos rfl, bq_5_100, dec1]
      exact e3
