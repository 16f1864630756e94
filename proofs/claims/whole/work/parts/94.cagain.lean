/-! again, call -/
theorem isN_e {q q' : xrho} {k i b : Nat} (h : q'.1 k i = q.1 k i) (H : isN q k i b) : isN q' k i b := by
  unfold isN
  rw [nu_e h, h]
  exact H
theorem gsends_o (q : xrho) (l c j ke : Nat) {k i : Nat} (hk : k < 60) (h5 : k ≠ 50) : (gsends q l c j ke).1 k i = q.1 k i := by
  unfold gsends
  rw [rup_ne _ _ _ _ h5, rup_ne _ _ _ _ (by omega), gnew_o _ _ _ _ _ _ _ (Or.inl (by omega)) (by omega)]
def keyOK (q : xrho) : Prop := ∀ c j, c < nu q 45 0 → j < nu q 46 c → isN q 48 (60 * c + j) 9999
theorem P_again {T0 MI X n : Nat} {q : xrho} {L : xLs} {M : xM} {ow : xOw} {x y : Int32} {o3 o4 o5 o6 : Option xV} (H : RepE T0 X n q L M ow) (B : bds q) (hG : lastOK q) (hF : frL q) (hK : keyOK q) : ∃ M' ow', xZ T0 MI 67 0 [some (vr (some X)), some (vi x), some (vi y), o3, o4, o5, o6] [] M = some (some (vi (gagain q x y).1), M') ∧ RepE T0 X n (gagain q x y).2 L M' ow' ∧ stp ext 2 (2 * nu q 82 0 + 26) ow M ow' M' := by
  have HE := H
  obtain ⟨ad, fh, fp, cl, ll, dl, aa, pk, H⟩ := H
  have H4 := H.2.2.2.2.1
  have H5 := H.2.2.2.2.2.1
  have n82 : ll.length = nu q 82 0 := H.2.2.2.2.2.2.1.1
  have b := B.1.2
  have b82 := B.2.2.1
  have hX := (ho_c H.2.1).1
  rw [bq_67_0, hX, cond_true, c_callerOf H.2.1 H4]
  unfold gagain gcallO
  cases hx : ix x (nu q 45 0) with
  | none =>
    obtain ⟨M', e, h, s⟩ := P_ref (MI := MI) (i := 1) (x := Int32.ofInt (-1)) HE B (by decide) rfl
    refine ⟨M', ow, ?_, h, s⟩
    simp (decide := true) (disch := omega) only [Option.bind_some, xasI, xasL, xasR, xin_t, cond_true, cond_false, nI_clamp, k_0, k_1, k_2, k_3, k_4, k_5, k_6, k_40, k_60, k_500, k_10000, pk_mul, nI_add, nI_e0, nI_ee, nI_leI, nI_ltI, xbool0, xbool1, xbn0, xbn1, xb_0, xb_1, reduceIte, one0, Option.isNone_none, ne_eq, not_true_eq_false, not_false_eq_true, if_true, if_false, ite_not, Bool.true_and, Bool.and_true, Option.bind_none, Option.isNone_none, bq_67_5, bq_67_10, bq_67_19, bq_67_26, bq_67_39, bq_67_46, hX, e, bq_67_51]
  | some c =>
    obtain ⟨hc, rfl, -⟩ := ix_some (by omega) hx
    rw [← H4.1] at hc
    obtain ⟨cp, ak, cs, as, vs, h1, h2, h3, h4, h5, h6⟩ := H4.2 c hc
    have hc6 : c < 6 := by have := H4.1; omega
    have hcn : c < nu q 45 0 := by rw [← H4.1]; exact hc
    have e1 := c_askOf (T0 := T0) (MI := MI) (q := q) (x := y) h1 hc6 h5 h6 (fun j hj => gC (H5 c j hcn hj).choose_spec.1.1)
    simp (decide := true) (disch := omega) only [Option.bind_some, xasI, xasL, xasR, xin_t, cond_true, cond_false, nI_clamp, k_0, k_1, k_2, k_3, k_4, k_5, k_6, k_40, k_60, k_500, k_10000, pk_mul, nI_add, nI_e0, nI_ee, nI_leI, nI_ltI, xbool0, xbool1, xbn0, xbn1, xb_0, xb_1, reduceIte, one0, Option.isNone_none, ne_eq, not_true_eq_false, not_false_eq_true, if_true, if_false, ite_not, Bool.true_and, Bool.and_true, List.getElem?_eq_getElem hc, Option.isNone_some, bq_67_5, bq_67_14, gC h1.1, e1]
    cases hk : ix y (nu q 46 c) with
    | none =>
      obtain ⟨M', e, h, s⟩ := P_ref (MI := MI) (i := 1) (x := Int32.ofInt (-1)) HE B (by decide) rfl
      refine ⟨M', ow, ?_, h, s⟩
      simp (decide := true) (disch := omega) only [Option.bind_some, xasI, xasL, xasR, xin_t, cond_true, cond_false, nI_clamp, k_0, k_1, k_2, k_3, k_4, k_5, k_6, k_40, k_60, k_500, k_10000, pk_mul, nI_add, nI_e0, nI_ee, nI_leI, nI_ltI, xbool0, xbool1, xbn0, xbn1, xb_0, xb_1, reduceIte, one0, Option.isNone_none, ne_eq, not_true_eq_false, not_false_eq_true, if_true, if_false, ite_not, Bool.true_and, Bool.and_true, Option.map_none, Option.isNone_none, bq_67_19, bq_67_26, bq_67_39, bq_67_46, hX, e, bq_67_51]
    | some j =>
      have hj := (ix_some (by have := (B.2.1 c hc6).2; omega) hk).1
      obtain ⟨sg, ⟨g1, -, -⟩, g2⟩ := H5 c j hcn hj
      have hk48 := hK c j hcn hj
      have k48 := hk48.1
      obtain ⟨o, e2, e3⟩ := c_spotOf (T0 := T0) (MI := MI) (key := q.1 48 (60 * c + j)) (o2 := none) (o3 := none) h1 h2 h3 hc6
      rw [k48, ix_i (by have := hk48.2; omega) (by decide)] at e3
      obtain ⟨s, e4, e5⟩ := e3
      rw [e4] at e2
      have er := c_hasRoom (T0 := T0) (MI := MI) (k := 1) H.2.1 (by decide)
      simp (decide := true) (disch := omega) only [Option.bind_some, xasI, xasL, xasR, xin_t, cond_true, cond_false, nI_clamp, k_0, k_1, k_2, k_3, k_4, k_5, k_6, k_40, k_60, k_500, k_10000, pk_mul, nI_add, nI_e0, nI_ee, nI_leI, nI_ltI, xbool0, xbool1, xbn0, xbn1, xb_0, xb_1, reduceIte, one0, Option.isNone_none, ne_eq, not_true_eq_false, not_false_eq_true, if_true, if_false, ite_not, Bool.true_and, Bool.and_true, Option.map_some, Option.isNone_some, bq_67_19, bq_67_30, gI g1 2 rfl, gC h1.1, e2, bq_67_39, bq_67_52, hX, er]
      by_cases h82 : nu q 82 0 = 1200
      · obtain ⟨M', e, h, s⟩ := P_ref (MI := MI) (i := 6) (x := Int32.ofInt (-6)) HE B (by decide) rfl
        rw [tI_f (by omega), if_pos h82]
        refine ⟨M', ow, ?_, h, s⟩
        simp (decide := true) (disch := omega) only [Option.bind_some, xasI, xasL, xasR, xin_t, cond_true, cond_false, nI_clamp, k_0, k_1, k_2, k_3, k_4, k_5, k_6, k_40, k_60, k_500, k_10000, pk_mul, nI_add, nI_e0, nI_ee, nI_leI, nI_ltI, xbool0, xbool1, xbn0, xbn1, xb_0, xb_1, reduceIte, one0, Option.isNone_none, ne_eq, not_true_eq_false, not_false_eq_true, if_true, if_false, ite_not, Bool.true_and, Bool.and_true, bq_67_57, bq_67_60, hX, e, bq_67_66]
      · have hl : ll.length < 1200 := by have := b82.2; omega
        obtain ⟨M', ow', bb, f1, f2, f3⟩ := R_pcall (T0 := T0) (MI := MI) (c := c) (j := j) (k := nu q 48 (60 * c + j)) (o4 := none) H B hl hG hF hc hj e5
        have l5 : oList T0 M ow 1 5 (ad 3) ll := H.2.1.choose_spec.1.2.2.2.2.2.2.2.1
        rw [tI_t (by omega), if_neg h82]
        refine ⟨M', ow', ?_, ⟨_, _, _, _, _, _, _, _, by rw [← n82]; exact f2⟩, by rw [← n82]; exact f3⟩
        simp (decide := true) (disch := omega) only [Option.bind_some, xasI, xasL, xasR, xin_t, cond_true, cond_false, nI_clamp, k_0, k_1, k_2, k_3, k_4, k_5, k_6, k_40, k_60, k_500, k_10000, pk_mul, nI_add, nI_e0, nI_ee, nI_leI, nI_ltI, xbool0, xbool1, xbn0, xbn1, xb_0, xb_1, reduceIte, one0, Option.isNone_none, ne_eq, not_true_eq_false, not_false_eq_true, if_true, if_false, ite_not, Bool.true_and, Bool.and_true, bq_67_57, bq_67_67, (ho_c H.2.1).2.2.2.2.1, (oL_c l5).1, oL_size l5, bq_67_74, hX, f1, bq_67_85, n82]
        rw [← b82.1]
theorem P_call {T0 MI X n : Nat} {q : xrho} {L : xLs} {M : xM} {ow : xOw} {x kind key : Int32} {v w : Int64} {o5 o7 o8 o9 o10 : Option xV} (H : RepE T0 X n q L M ow) (B : bds q) (hG : lastOK q) (hF : frL q) (hA : frA q) (hC : calOK q) : ∃ M' ow', xZ T0 MI 66 0 [some (vr (some X)), some (vi x), some (vi kind), some (vi key), some (vl v), o5, some (vl w), o7, o8, o9, o10] [] M = some (some (vi (gcall q x kind key v w).1), M') ∧ RepE T0 X n (gcall q x kind key v w).2 L M' ow' ∧ stp ext 4 (2 * nu q 82 0 + 176) ow M ow' M' := by
  have HE := H
  obtain ⟨ad, fh, fp, cl, ll, dl, aa, pk, H⟩ := H
  have H4 := H.2.2.2.2.1
  have n82 : ll.length = nu q 82 0 := H.2.2.2.2.2.2.1.1
  have b := B.1.2
  have b82 := B.2.2.1
  have hX := (ho_c H.2.1).1
  rw [bq_66_0, hX, cond_true, c_callerOf H.2.1 H4]
  unfold gcall
  cases hx : ix x (nu q 45 0) with
  | none =>
    obtain ⟨M', e, h, s⟩ := P_ref (MI := MI) (i := 1) (x := Int32.ofInt (-1)) HE B (by decide) rfl
    refine ⟨M', ow, ?_, h, s⟩
    simp (decide := true) (disch := omega) only [Option.bind_some, xasI, xasL, xasR, xin_t, cond_true, cond_false, nI_clamp, k_0, k_1, k_2, k_3, k_4, k_5, k_6, k_40, k_60, k_500, k_10000, pk_mul, nI_add, nI_e0, nI_ee, nI_leI, nI_ltI, xbool0, xbool1, xbn0, xbn1, xb_0, xb_1, reduceIte, one0, Option.isNone_none, ne_eq, not_true_eq_false, not_false_eq_true, if_true, if_false, ite_not, Bool.true_and, Bool.and_true, Option.bind_none, Option.isNone_none, bq_66_5, bq_66_12, hX, e, bq_66_17]
  | some c =>
    obtain ⟨hc, rfl, -⟩ := ix_some (by omega) hx
    rw [← H4.1] at hc
    obtain ⟨cp, ak, cs, as, vs, h1, h2, h3, h4, h5, h6⟩ := H4.2 c hc
    have hc6 : c < 6 := by have := H4.1; omega
    have hcn : c < nu q 45 0 := by rw [← H4.1]; exact hc
    simp (decide := true) (disch := omega) only [Option.bind_some, xasI, xasL, xasR, xin_t, cond_true, cond_false, nI_clamp, k_0, k_1, k_2, k_3, k_4, k_5, k_6, k_40, k_60, k_500, k_10000, pk_mul, nI_add, nI_e0, nI_ee, nI_leI, nI_ltI, xbool0, xbool1, xbn0, xbn1, xb_0, xb_1, reduceIte, one0, Option.isNone_none, ne_eq, not_true_eq_false, not_false_eq_true, if_true, if_false, ite_not, Bool.true_and, Bool.and_true, List.getElem?_eq_getElem hc, Option.isNone_some, bq_66_5]
    have kr : ix kind 5 = none → ∀ o8, ∃ M', xZ T0 MI 66 18 [some (vr (some X)), some (vi (nI c)), some (vi kind), some (vi key), some (vl v), o5, some (vl w), xinv o7, some (vr o8), o9, o10] [] M = some (some (vi (Int32.ofInt (-2))), M') ∧ RepE T0 X n (gref q 2) L M' ow ∧ stp ext 4 (2 * nu q 82 0 + 176) ow M ow M' := fun hk o8 => by
      obtain ⟨M', e, h, s⟩ := P_ref (MI := MI) (i := 2) (x := Int32.ofInt (-2)) HE B (by decide) rfl
      refine ⟨M', ?_, h, s⟩
      rcases pk_ix kind (n := 5) (by decide) with a | a | ⟨j, hj, rfl⟩
      · rw [bq_66_18, if_pos a]
        simp (decide := true) (disch := omega) only [Option.bind_some, xasI, xasL, xasR, xin_t, cond_true, cond_false, nI_clamp, k_0, k_1, k_2, k_3, k_4, k_5, k_6, k_40, k_60, k_500, k_10000, pk_mul, nI_add, nI_e0, nI_ee, nI_leI, nI_ltI, xbool0, xbool1, xbn0, xbn1, xb_0, xb_1, reduceIte, one0, Option.isNone_none, ne_eq, not_true_eq_false, not_false_eq_true, if_true, if_false, ite_not, Bool.true_and, Bool.and_true, bq_66_27, hX, e, bq_66_33]
      · rw [bq_66_18, if_neg (nlt_ge (by decide) a), bq_66_22, k_4, if_neg (Int32.not_le.mpr (Int32.lt_of_lt_of_le (show nI 4 < nI 5 by decide) a))]
        simp (decide := true) (disch := omega) only [Option.bind_some, xasI, xasL, xasR, xin_t, cond_true, cond_false, nI_clamp, k_0, k_1, k_2, k_3, k_4, k_5, k_6, k_40, k_60, k_500, k_10000, pk_mul, nI_add, nI_e0, nI_ee, nI_leI, nI_ltI, xbool0, xbool1, xbn0, xbn1, xb_0, xb_1, reduceIte, one0, Option.isNone_none, ne_eq, not_true_eq_false, not_false_eq_true, if_true, if_false, ite_not, Bool.true_and, Bool.and_true, bq_66_27, hX, e, bq_66_33]
      · rw [ix_i hj (by decide)] at hk
        cases hk
    cases hk : ix kind 5 with
    | none =>
      obtain ⟨M', e, h, s⟩ := kr hk (some cl[c])
      exact ⟨M', ow, e, h, s⟩
    | some kk =>
      clear kr
      obtain ⟨hk5, rfl, -⟩ := ix_some (by decide) hk
      obtain ⟨o, e2, e3⟩ := c_spotOf (T0 := T0) (MI := MI) (key := key) (o2 := none) (o3 := none) h1 h2 h3 hc6
      rw [bq_66_18, if_neg (nlt0 (by omega)), bq_66_22, k_4, if_pos ((nI_leI (by omega) (by decide)).mpr (by omega))]
      simp (decide := true) (disch := omega) only [Option.bind_some, xasI, xasL, xasR, xin_t, cond_true, cond_false, nI_clamp, k_0, k_1, k_2, k_3, k_4, k_5, k_6, k_40, k_60, k_500, k_10000, pk_mul, nI_add, nI_e0, nI_ee, nI_leI, nI_ltI, xbool0, xbool1, xbn0, xbn1, xb_0, xb_1, reduceIte, one0, Option.isNone_none, ne_eq, not_true_eq_false, not_false_eq_true, if_true, if_false, ite_not, Bool.true_and, Bool.and_true, bq_66_34, gC h1.1, e2]
      cases hy : ix key 10000 with
      | none =>
        rw [hy] at e3
        obtain ⟨M', e, h, s⟩ := P_ref (MI := MI) (i := 3) (x := Int32.ofInt (-3)) HE B (by decide) rfl
        refine ⟨M', ow, ?_, h, s⟩
        rw [e3]
        simp (decide := true) (disch := omega) only [Option.bind_some, xasI, xasL, xasR, xin_t, cond_true, cond_false, nI_clamp, k_0, k_1, k_2, k_3, k_4, k_5, k_6, k_40, k_60, k_500, k_10000, pk_mul, nI_add, nI_e0, nI_ee, nI_leI, nI_ltI, xbool0, xbool1, xbn0, xbn1, xb_0, xb_1, reduceIte, one0, Option.isNone_none, ne_eq, not_true_eq_false, not_false_eq_true, if_true, if_false, ite_not, Bool.true_and, Bool.and_true, Option.isNone_none, bq_66_40, bq_66_47, hX, e, bq_66_53]
      | some ke =>
        rw [hy] at e3
        obtain ⟨s, e4, e5⟩ := e3
        rw [e4]
        have hke := ix_some (by decide) hy
        have er := c_hasRoom (T0 := T0) (MI := MI) (k := 1) H.2.1 (by decide)
        have b46 := (B.2.1 c hc6).2
        simp (decide := true) (disch := omega) only [Option.bind_some, xasI, xasL, xasR, xin_t, cond_true, cond_false, nI_clamp, k_0, k_1, k_2, k_3, k_4, k_5, k_6, k_40, k_60, k_500, k_10000, pk_mul, nI_add, nI_e0, nI_ee, nI_leI, nI_ltI, xbool0, xbool1, xbn0, xbn1, xb_0, xb_1, reduceIte, one0, Option.isNone_none, ne_eq, not_true_eq_false, not_false_eq_true, if_true, if_false, ite_not, Bool.true_and, Bool.and_true, Option.isNone_some, bq_66_40, bq_66_54, gR h1.1 2 rfl, (oL_c h1.2.2.2.2).1, oL_size h1.2.2.2.2, h5, bq_66_62]
        by_cases hr : nu q 82 0 = 1200 ∨ nu q 46 c = 60
        · obtain ⟨M', e, h, s⟩ := P_ref (MI := MI) (i := 6) (x := Int32.ofInt (-6)) HE B (by decide) rfl
          rw [if_pos hr]
          refine ⟨M', ow, ?_, h, s⟩
          by_cases h46 : nu q 46 c = 60
          · rw [if_pos (by omega)]
            simp (decide := true) (disch := omega) only [Option.bind_some, xasI, xasL, xasR, xin_t, cond_true, cond_false, nI_clamp, k_0, k_1, k_2, k_3, k_4, k_5, k_6, k_40, k_60, k_500, k_10000, pk_mul, nI_add, nI_e0, nI_ee, nI_leI, nI_ltI, xbool0, xbool1, xbn0, xbn1, xb_0, xb_1, reduceIte, one0, Option.isNone_none, ne_eq, not_true_eq_false, not_false_eq_true, if_true, if_false, ite_not, Bool.true_and, Bool.and_true, bq_66_75, hX, e, bq_66_81]
          · rw [if_neg (by omega)]
            simp (decide := true) (disch := omega) only [Option.bind_some, xasI, xasL, xasR, xin_t, cond_true, cond_false, nI_clamp, k_0, k_1, k_2, k_3, k_4, k_5, k_6, k_40, k_60, k_500, k_10000, pk_mul, nI_add, nI_e0, nI_ee, nI_leI, nI_ltI, xbool0, xbool1, xbn0, xbn1, xb_0, xb_1, reduceIte, one0, Option.isNone_none, ne_eq, not_true_eq_false, not_false_eq_true, if_true, if_false, ite_not, Bool.true_and, Bool.and_true, bq_66_67, hX, er]
            rw [tI_f (by omega)]
            simp (decide := true) (disch := omega) only [Option.bind_some, xasI, xasL, xasR, xin_t, cond_true, cond_false, nI_clamp, k_0, k_1, k_2, k_3, k_4, k_5, k_6, k_40, k_60, k_500, k_10000, pk_mul, nI_add, nI_e0, nI_ee, nI_leI, nI_ltI, xbool0, xbool1, xbn0, xbn1, xb_0, xb_1, reduceIte, one0, Option.isNone_none, ne_eq, not_true_eq_false, not_false_eq_true, if_true, if_false, ite_not, Bool.true_and, Bool.and_true, bq_66_72, bq_66_75, hX, e, bq_66_81]
        · rw [if_neg hr, if_neg (by omega)]
          have hl : ll.length < 1200 := by have := b82.2; omega
          obtain ⟨ak', M1, M2, ow2, ⟨f1, f2, f3⟩, f4, ⟨f5, f6⟩, f7, f8, f9⟩ := R_newask (T0 := T0) (MI := MI) (kind := nI kk) (key := key) (v := v) (w := w) (o5 := none) (o7 := none) H B hc (by omega) hA hC
          have n46 : nu (gcallq q c (nu q 46 c) (nI kk) key v w) 46 c = nu q 46 c + 1 := by
            show ((gcallq q c (nu q 46 c) (nI kk) key v w).1 46 c).toNatClampNeg = _
            rw [(gcallq_at q c (nu q 46 c) (nI kk) key v w).2.2.2, nI_clamp (by omega)]
          have eo : ∀ k i, k < 46 ∨ 50 ≤ k → (gcallq q c (nu q 46 c) (nI kk) key v w).1 k i = q.1 k i := fun k i h => gcallq_o _ _ _ _ _ _ _ (Or.inl (by omega)) (Or.inl (by omega))
          have B2 : bds (gcallq q c (nu q 46 c) (nI kk) key v w) := by
            refine ⟨?_, fun c' hc' => ?_, ?_, ?_, ?_, ?_⟩
            · exact isN_e (eo 45 0 (by omega)) B.1
            · by_cases ec : c' = c
              · subst ec
                refine ⟨?_, by rw [n46]; omega⟩
                rw [n46]
                exact (gcallq_at q c' (nu q 46 c') (nI kk) key v w).2.2.2
              · exact isN_e (gcallq_o _ _ _ _ _ _ _ (Or.inl (by omega)) (Or.inr ec)) (B.2.1 c' hc')
            · exact isN_e (eo 82 0 (by omega)) B.2.2.1
            · exact isN_e (eo 12 0 (by omega)) B.2.2.2.1
            · exact isN_e (eo 44 0 (by omega)) B.2.2.2.2.1
            · exact isN_e (eo 88 0 (by omega)) B.2.2.2.2.2
          have hG2 : lastOK (gcallq q c (nu q 46 c) (nI kk) key v w) := fun p hp a b => by
            rw [eo 15 p (by omega)] at a
            rw [eo 32 p (by omega)] at b
            rw [nu_e (eo 29 p (by omega)), nu_e (eo 82 0 (by omega))]
            exact hG p hp a b
          have hF2 : frL (gcallq q c (nu q 46 c) (nI kk) key v w) := fun l a b => by
            rw [nu_e (eo 82 0 (by omega))] at a
            rw [eo 65 l (by omega), eo 75 l (by omega)]
            exact hF l a b
          obtain ⟨M', ow', bb, g1, g2, g3⟩ := R_pcall (T0 := T0) (MI := MI) (c := c) (j := nu q 46 c) (k := ke) (s := s) (o4 := none) f8 B2 hl hG2 hF2 hc (by rw [n46]; omega) (by
            rw [eo 55 _ (by omega), eo 56 _ (by omega), eo 57 _ (by omega), eo 58 _ (by omega), eo 59 _ (by omega)]
            exact isSpot_f e5 f9 (fun t ht => by omega))
          rw [va_up_self] at g1
          have hX2 := (ho_c f8.2.1).1
          refine ⟨M', ow', ?_, ⟨_, _, _, _, _, _, _, _, by rw [← n82]; exact g2⟩, stp_w (stp_tr (ext_of f9 (fun t ht => by omega) (Nat.le_refl _) (Nat.le_refl _)) g3) (fun _ h => h) (Nat.le_refl _) (by omega)⟩
          have rd : xgetI M' M.1 0 0 = some (nI (nu q 46 c)) := by
            obtain ⟨sg, ⟨a1, -, -⟩, -⟩ := g2.2.2.2.2.2.1 c (nu q 46 c) (by rw [nu_e (gsends_o _ _ _ _ _ (by decide) (by decide)), nu_e (eo 45 0 (by omega))]; exact hcn) (by
              rw [nu_e (gsends_o _ _ _ _ _ (by decide) (by decide)), n46]
              omega)
            rw [va_up_self] at a1
            exact gI a1 0 rfl
          simp (decide := true) (disch := omega) only [Option.bind_some, xasI, xasL, xasR, xin_t, cond_true, cond_false, nI_clamp, k_0, k_1, k_2, k_3, k_4, k_5, k_6, k_40, k_60, k_500, k_10000, pk_mul, nI_add, nI_e0, nI_ee, nI_leI, nI_ltI, xbool0, xbool1, xbn0, xbn1, xb_0, xb_1, reduceIte, one0, Option.isNone_none, ne_eq, not_true_eq_false, not_false_eq_true, if_true, if_false, ite_not, Bool.true_and, Bool.and_true, bq_66_67, hX, er]
          rw [tI_t (by omega)]
          simp (decide := true) (disch := omega) only [Option.bind_some, xasI, xasL, xasR, xin_t, cond_true, cond_false, nI_clamp, k_0, k_1, k_2, k_3, k_4, k_5, k_6, k_40, k_60, k_500, k_10000, pk_mul, nI_add, nI_e0, nI_ee, nI_leI, nI_ltI, xbool0, xbool1, xbn0, xbn1, xb_0, xb_1, reduceIte, one0, Option.isNone_none, ne_eq, not_true_eq_false, not_false_eq_true, if_true, if_false, ite_not, Bool.true_and, Bool.and_true, bq_66_72, bq_66_82, f1, f2, f3, bq_66_94, f4, bq_66_103, f5, f6, f7, bq_66_115, hX2, g1, bq_66_126, rd]
          rw [← (B.2.1 c hc6).1]
