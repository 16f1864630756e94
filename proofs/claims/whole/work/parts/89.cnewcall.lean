/-! caller -/
theorem oHo_2 {T0 X x y : Nat} {M M' : xM} {ow ow' : xOw} {ad : Nat → Nat} {fh fp : Nat → Option Nat} {cl cl' ll dl : List Nat} {mk ov un : Int32} {g : Nat → Int32} (H : oHo T0 M ow X ad fh fp cl ll dl mk ov un g) (hl : oList T0 M' ow' 1 3 (ad 2) cl') (hs : stp (fun t => ¬ inP 1 3 4 t) x y ow M ow' M') : oHo T0 M' ow' X ad fh fp cl' ll dl mk ov un g := by
  obtain ⟨h1, h2, h3, h4, ⟨o1, o2, o3, o4⟩, ⟨b1, b2, b3, b4⟩, l1, l2, l3⟩ := H
  have hl' := hs.1
  refine ⟨?_, ?_, ?_, ?_, ⟨?_, ?_, ?_, ?_⟩, ⟨by omega, by omega, by omega, by omega⟩, hl, oList_f l2 hs (fun t ht => by omega) (fun t ht => by omega), oList_f l3 hs (fun t ht => by omega) (fun t ht => by omega)⟩
  · rw [(hs.2.2.2 _ b1).2 (by rw [o1]; simp)]; exact h1
  · rw [(hs.2.2.2 _ b2).2 (by rw [o2]; simp)]; exact h2
  · rw [(hs.2.2.2 _ b3).2 (by rw [o3]; simp)]; exact h3
  · rw [(hs.2.2.2 _ b4).2 (by rw [o4]; simp)]; exact h4
  · rw [(hs.2.2.2 _ b1).1]; exact o1
  · rw [(hs.2.2.2 _ b2).1]; exact o2
  · rw [(hs.2.2.2 _ b3).1]; exact o3
  · rw [(hs.2.2.2 _ b4).1]; exact o4
theorem oHo_3 {T0 X x y : Nat} {M M' : xM} {ow ow' : xOw} {ad : Nat → Nat} {fh fp : Nat → Option Nat} {cl ll ll' dl : List Nat} {mk ov un : Int32} {g : Nat → Int32} (H : oHo T0 M ow X ad fh fp cl ll dl mk ov un g) (hl : oList T0 M' ow' 1 5 (ad 3) ll') (hs : stp (fun t => ¬ inP 1 5 6 t) x y ow M ow' M') : oHo T0 M' ow' X ad fh fp cl ll' dl mk ov un g := by
  obtain ⟨h1, h2, h3, h4, ⟨o1, o2, o3, o4⟩, ⟨b1, b2, b3, b4⟩, l1, l2, l3⟩ := H
  have hl' := hs.1
  refine ⟨?_, ?_, ?_, ?_, ⟨?_, ?_, ?_, ?_⟩, ⟨by omega, by omega, by omega, by omega⟩, oList_f l1 hs (fun t ht => by omega) (fun t ht => by omega), hl, oList_f l3 hs (fun t ht => by omega) (fun t ht => by omega)⟩
  · rw [(hs.2.2.2 _ b1).2 (by rw [o1]; simp)]; exact h1
  · rw [(hs.2.2.2 _ b2).2 (by rw [o2]; simp)]; exact h2
  · rw [(hs.2.2.2 _ b3).2 (by rw [o3]; simp)]; exact h3
  · rw [(hs.2.2.2 _ b4).2 (by rw [o4]; simp)]; exact h4
  · rw [(hs.2.2.2 _ b1).1]; exact o1
  · rw [(hs.2.2.2 _ b2).1]; exact o2
  · rw [(hs.2.2.2 _ b3).1]; exact o3
  · rw [(hs.2.2.2 _ b4).1]; exact o4
theorem oHo_4 {T0 X x y : Nat} {M M' : xM} {ow ow' : xOw} {ad : Nat → Nat} {fh fp : Nat → Option Nat} {cl ll dl dl' : List Nat} {mk ov un : Int32} {g : Nat → Int32} (H : oHo T0 M ow X ad fh fp cl ll dl mk ov un g) (hl : oList T0 M' ow' 1 7 (ad 4) dl') (hs : stp (fun t => ¬ inP 1 7 8 t) x y ow M ow' M') : oHo T0 M' ow' X ad fh fp cl ll dl' mk ov un g := by
  obtain ⟨h1, h2, h3, h4, ⟨o1, o2, o3, o4⟩, ⟨b1, b2, b3, b4⟩, l1, l2, l3⟩ := H
  have hl' := hs.1
  refine ⟨?_, ?_, ?_, ?_, ⟨?_, ?_, ?_, ?_⟩, ⟨by omega, by omega, by omega, by omega⟩, oList_f l1 hs (fun t ht => by omega) (fun t ht => by omega), oList_f l2 hs (fun t ht => by omega) (fun t ht => by omega), hl⟩
  · rw [(hs.2.2.2 _ b1).2 (by rw [o1]; simp)]; exact h1
  · rw [(hs.2.2.2 _ b2).2 (by rw [o2]; simp)]; exact h2
  · rw [(hs.2.2.2 _ b3).2 (by rw [o3]; simp)]; exact h3
  · rw [(hs.2.2.2 _ b4).2 (by rw [o4]; simp)]; exact h4
  · rw [(hs.2.2.2 _ b1).1]; exact o1
  · rw [(hs.2.2.2 _ b2).1]; exact o2
  · rw [(hs.2.2.2 _ b3).1]; exact o3
  · rw [(hs.2.2.2 _ b4).1]; exact o4
theorem bkOK_e {q q' : xrho} (H : bkOK q) (e : qe 2 12 q q') : bkOK q' := by
  have e2 := fun i => e 2 i (by decide) (by decide)
  have e3 := fun i => e 3 i (by decide) (by decide)
  have e4 := fun i => e 4 i (by decide) (by decide)
  have e6 := fun i => e 6 i (by decide) (by decide)
  have e12 := fun i => e 12 i (by decide) (by decide)
  unfold bkOK okSp isN nu at H ⊢
  simp only [e2, e3, e4, e6, e12]
  exact H
theorem bkF_e {q q' : xrho} (e : qe 2 12 q q') : ∀ m r, bkF q' r m = bkF q r m
  | 0, _ => rfl
  | m + 1, r => by
    unfold bkF nu
    rw [bkF_e e m (r + 1), e 2 r (by decide) (by decide), e 3 r (by decide) (by decide), e 4 r (by decide) (by decide), e 5 r (by decide) (by decide), e 6 r (by decide) (by decide)]
theorem nu_e {q q' : xrho} {k i : Nat} (h : q'.1 k i = q.1 k i) : nu q' k i = nu q k i := by unfold nu; rw [h]
theorem P_caller {T0 MI X n : Nat} {q : xrho} {L : xLs} {M : xM} {ow : xOw} {o1 : Option xV} (H : RepE T0 X n q L M ow) (B : bds q) (K : bkOK q) (hT : tOK T0 M ow) (hz : ∀ c, nu q 45 0 ≤ c → c < 6 → q.1 46 c = nI 0) : ∃ M' ow', xZ T0 MI 65 0 [some (vr (some X)), o1] [] M = some (some (vi (gcaller q (nu q 45 0) (nu q 12 0)).1), M') ∧ RepE T0 X n (gcaller q (nu q 45 0) (nu q 12 0)).2 L M' ow' ∧ stp ext 44 3700 ow M ow' M' := by
  have HE := H
  obtain ⟨ad, fh, fp, cl, ll, dl, aa, pk, H⟩ := H
  have H4 := H.2.2.2.2.1
  have b := B.1.2
  have hlen : cl.length = nu q 45 0 := H4.1
  have eu := c_isUp (T0 := T0) (MI := MI) (X := X) (h := 0) (o2 := none) H.2.1 H.2.2.1 (by decide)
  have hll : ll.length ≤ 1200 := by rw [H.2.2.2.2.2.2.1.1]; exact B.2.2.1.2
  simp (decide := true) (disch := omega) only [Option.bind_some, xasI, xasL, xasR, xin_t, cond_true, cond_false, nI_clamp, k_0, k_1, k_2, k_3, k_4, k_5, k_6, k_40, k_60, k_500, k_10000, pk_mul, nI_add, nI_e0, nI_ee, nI_leI, nI_ltI, xbool0, xbool1, xbn0, xbn1, xb_0, xb_1, reduceIte, one0, Option.isNone_none, ne_eq, not_true_eq_false, not_false_eq_true, if_true, if_false, ite_not, Bool.true_and, Bool.and_true, bq_65_0, (ho_c H.2.1).1, eu]
  unfold gcaller
  by_cases e : q.1 0 0 = 0
  · rw [if_pos e, tI_f (fun h => h e), bq_65_5, if_pos rfl]
    obtain ⟨M', e', h', s⟩ := P_ref (MI := MI) (i := 4) (x' := 44) (y' := 3700) (x := Int32.ofInt (-4)) HE B (by decide) rfl
    refine ⟨M', ow, ?_, h', s⟩
    simp (decide := true) (disch := omega) only [Option.bind_some, xasI, xasL, xasR, xin_t, cond_true, cond_false, nI_clamp, k_0, k_1, k_2, k_3, k_4, k_5, k_6, k_40, k_60, k_500, k_10000, pk_mul, nI_add, nI_e0, nI_ee, nI_leI, nI_ltI, xbool0, xbool1, xbn0, xbn1, xb_0, xb_1, reduceIte, one0, Option.isNone_none, ne_eq, not_true_eq_false, not_false_eq_true, if_true, if_false, ite_not, Bool.true_and, Bool.and_true, bq_65_8, (ho_c H.2.1).1, e', bq_65_14]
  · have l3 : oList T0 M ow 1 3 (ad 2) cl := H.2.1.choose_spec.1.2.2.2.2.2.2.1
    rw [if_neg e, tI_t e, bq_65_5, if_neg one0, bq_65_15, (ho_c H.2.1).2.2.2.1]
    simp (decide := true) (disch := omega) only [Option.bind_some, xasI, xasL, xasR, xin_t, cond_true, cond_false, nI_clamp, k_0, k_1, k_2, k_3, k_4, k_5, k_6, k_40, k_60, k_500, k_10000, pk_mul, nI_add, nI_e0, nI_ee, nI_leI, nI_ltI, xbool0, xbool1, xbn0, xbn1, xb_0, xb_1, reduceIte, one0, Option.isNone_none, ne_eq, not_true_eq_false, not_false_eq_true, if_true, if_false, ite_not, Bool.true_and, Bool.and_true, (oL_c l3).1, oL_size l3]
    rw [bq_65_22, k_6]
    by_cases e6 : nu q 45 0 = 6
    · rw [if_neg (by rw [nI_ltI (by omega) (by decide)]; omega), if_pos e6]
      obtain ⟨M', e', h', s⟩ := P_ref (MI := MI) (i := 6) (x' := 44) (y' := 3700) (x := Int32.ofInt (-6)) HE B (by decide) rfl
      refine ⟨M', ow, ?_, h', s⟩
      simp (decide := true) (disch := omega) only [Option.bind_some, xasI, xasL, xasR, xin_t, cond_true, cond_false, nI_clamp, k_0, k_1, k_2, k_3, k_4, k_5, k_6, k_40, k_60, k_500, k_10000, pk_mul, nI_add, nI_e0, nI_ee, nI_leI, nI_ltI, xbool0, xbool1, xbn0, xbn1, xb_0, xb_1, reduceIte, one0, Option.isNone_none, ne_eq, not_true_eq_false, not_false_eq_true, if_true, if_false, ite_not, Bool.true_and, Bool.and_true, bq_65_27, (ho_c H.2.1).1, e', bq_65_33]
    · rw [if_pos (by rw [nI_ltI (by omega) (by decide)]; omega), if_neg e6, bq_65_34]
      have hc6 : cl.length < 6 := by omega
      have s0 : stp (fun _ => True) 1 3 ow M (va_up ow M.1 (500 + cl.length, 0)) (xnewO M 1) := newO_f _ (fun _ => by omega) (by decide)
      have H10 := FH_f H.2.1 s0 (fun _ _ => trivial) (fun _ _ => trivial) (qe_rf _ _ _) (qe_rf _ _ _)
      have l30 : oList T0 (xnewO M 1) _ 1 3 (ad 2) cl := H10.choose_spec.1.2.2.2.2.2.2.1
      rw [(ho_c H10).2.2.2.1]
      simp (decide := true) (disch := omega) only [Option.bind_some, xasI, xasL, xasR, xin_t, cond_true, cond_false, nI_clamp, k_0, k_1, k_2, k_3, k_4, k_5, k_6, k_40, k_60, k_500, k_10000, pk_mul, nI_add, nI_e0, nI_ee, nI_leI, nI_ltI, xbool0, xbool1, xbn0, xbn1, xb_0, xb_1, reduceIte, one0, Option.isNone_none, ne_eq, not_true_eq_false, not_false_eq_true, if_true, if_false, ite_not, Bool.true_and, Bool.and_true, (oL_c l30).1, oL_size l30]
      obtain ⟨M1, ow1, e1, ⟨cp, ak, Hc⟩, s1⟩ := c_newCa (T0 := T0) (MI := MI) (c := cl.length) hT hc6
      rw [bq_65_45, e1]
      simp (decide := true) (disch := omega) only [Option.bind_some, xasI, xasL, xasR, xin_t, cond_true, cond_false, nI_clamp, k_0, k_1, k_2, k_3, k_4, k_5, k_6, k_40, k_60, k_500, k_10000, pk_mul, nI_add, nI_e0, nI_ee, nI_leI, nI_ltI, xbool0, xbool1, xbn0, xbn1, xb_0, xb_1, reduceIte, one0, Option.isNone_none, ne_eq, not_true_eq_false, not_false_eq_true, if_true, if_false, ite_not, Bool.true_and, Bool.and_true]
      have T := fun (t : Nat × Nat) (_ : t.1 = t.1) => trivial
      obtain ⟨g, ho, hgr⟩ := FH_f H.2.1 (s1 (fun _ => True)) (fun _ _ => trivial) (fun _ _ => trivial) (qe_rf _ _ _) (qe_rf _ _ _)
      have l31 : oList T0 M1 ow1 1 3 (ad 2) cl := ho.2.2.2.2.2.2.1
      have o3 := (oL_c l31).2.1
      have objs : ∀ e ∈ cl, isObj M1 e ∧ e < M1.1 ∧ e ≠ ad 2 := fun e he => by
        obtain ⟨j, hj, rfl⟩ := List.getElem_of_mem he
        obtain ⟨cp, ak, cs, as, vs, h1, -⟩ := H4.2 j hj
        have h1 := oCa_f h1 (s1 (fun _ => True)) (fun _ _ => trivial) (fun _ _ => trivial)
        exact ⟨⟨1, _, h1.1, by decide⟩, h1.2.2.1, ow_ne h1.2.1 o3 (by simp)⟩
      obtain ⟨M2, ow2, e2, l32, s2⟩ := oL_add (T0 := T0) (MI := MI) (v := M.1) (by decide) l31 (by omega) ⟨1, _, Hc.1, by decide⟩ Hc.2.2.1 (ow_ne Hc.2.1 o3 (by simp)) objs
      have ho2 := oHo_2 ho l32 s2
      have Hc2 := oCa_f Hc s2 (fun t ht => by omega) (fun t ht => by omega)
      have HH2 : FH T0 M2 ow2 X ad fh fp (cl ++ [M.1]) ll dl q := ⟨g, ho2, hgr⟩
      have HP2 := FP_f (FP_f H.2.2.2.1 (s1 (fun _ => True)) (fun _ _ _ => trivial) (fun _ _ => trivial) (qe_rf _ _ _)) s2 (fun t a b => by omega) (fun t a => by omega) (qe_rf _ _ _)
      obtain ⟨M3, ow3, cs', e3, Hc3, sp3, s3⟩ := c_tell (T0 := T0) (MI := MI) (o2 := none) (o3 := none) hc6 B.2.2.2.1 K.2.1 HH2 HP2 Hc2
      have sA : stp (fun t => ¬ inP 1 3 4 t ∧ t.1 ≠ 500 + cl.length) 44 3700 ow M ow3 M3 := stp_w (stp_tr (stp_tr (s1 _) (stp_w s2 (fun t ht => ht.1) (Nat.le_refl _) (Nat.le_refl _))) (stp_w s3 (fun t ht e => ht.2 e.1) (Nat.le_refl _) (Nat.le_refl _))) (fun _ h => h) (by omega) (by omega)
      have hlen2 := bkF_len q (nu q 12 0) 0
      have h40 := B.2.2.2.1.2
      have Kq := bkOK_e (q' := rup q 45 0 (nI (nu q 45 0 + 1))) K (qe_up (qe_rf _ _ _) (by omega))
      have n12 : nu (rup q 45 0 (nI (nu q 45 0 + 1))) 12 0 = nu q 12 0 := by unfold nu; rw [rup_ne _ _ _ _ (by decide)]
      have cpv := cpV_learn Kq cl.length
      have gx : ∀ k c' i, c' ≠ cl.length → i < 10000 → k ≠ 45 → (glearn cl.length 0 (nu q 12 0) (rup q 45 0 (nI (nu q 45 0 + 1)))).1 k (10000 * c' + i) = q.1 k (10000 * c' + i) := fun k c' i a b d => by
        have := glearn_x (k := k) Kq a b
        rw [n12] at this
        rw [this, rup_ne _ _ _ _ d]
      rw [n12, bkF_e (q := q) (qe_up (qe_rf _ _ _) (by omega))] at cpv
      have ge : ∀ k i, k < 55 ∨ 60 ≤ k → k ≠ 45 → (glearn cl.length 0 (nu q 12 0) (rup q 45 0 (nI (nu q 45 0 + 1)))).1 k i = q.1 k i := fun k i a d => by rw [glearn_ne _ a, rup_ne _ _ _ _ d]
      have g45 : nu (glearn cl.length 0 (nu q 12 0) (rup q 45 0 (nI (nu q 45 0 + 1)))) 45 0 = nu q 45 0 + 1 := by
        show ((glearn cl.length 0 (nu q 12 0) (rup q 45 0 (nI (nu q 45 0 + 1)))).1 45 0).toNatClampNeg = _
        rw [glearn_ne _ (by decide), rup_at, nI_clamp (by omega)]
      rw [← hlen] at g45
      have gL : ∀ k i, (glearn cl.length 0 (nu q 12 0) (rup q 45 0 (nI (nu q 45 0 + 1)))).2 k i = q.2 k i := fun k i => by rw [glearn_2]; rfl
      have z46 := hz cl.length (by omega) hc6
      refine ⟨M3, ow3, ?_, ⟨ad, fh, fp, cl ++ [M.1], ll, dl, aa, pk, ?_⟩, ext_of sA (fun t ht => by omega) (Nat.le_refl _) (Nat.le_refl _)⟩
      · rw [bq_65_48, (ho_c ⟨g, ho, hgr⟩).2.2.2.1, Option.bind_some, Option.bind_some, (oL_c l31).1, cond_true, e2]
        simp (decide := true) (disch := omega) only [Option.bind_some, xasI, xasL, xasR, xin_t, cond_true, cond_false, nI_clamp, k_0, k_1, k_2, k_3, k_4, k_5, k_6, k_40, k_60, k_500, k_10000, pk_mul, nI_add, nI_e0, nI_ee, nI_leI, nI_ltI, xbool0, xbool1, xbn0, xbn1, xb_0, xb_1, reduceIte, one0, Option.isNone_none, ne_eq, not_true_eq_false, not_false_eq_true, if_true, if_false, ite_not, Bool.true_and, Bool.and_true]
        rw [bq_65_57, (ho_c HH2).1, cond_true, e3]
        simp (decide := true) (disch := omega) only [Option.bind_some, xasI, xasL, xasR, xin_t, cond_true, cond_false, nI_clamp, k_0, k_1, k_2, k_3, k_4, k_5, k_6, k_40, k_60, k_500, k_10000, pk_mul, nI_add, nI_e0, nI_ee, nI_leI, nI_ltI, xbool0, xbool1, xbn0, xbn1, xb_0, xb_1, reduceIte, one0, Option.isNone_none, ne_eq, not_true_eq_false, not_false_eq_true, if_true, if_false, ite_not, Bool.true_and, Bool.and_true]
        rw [bq_65_63, Option.bind_some, gI Hc3.1 0 rfl, Option.bind_some, hlen]
      · rw [← hlen]
        rw [← hlen] at cpv gx ge gL
        have H1' : FH T0 M3 ow3 X ad fh fp (cl ++ [M.1]) ll dl q := FH_f HH2 s3 (fun t ht => by omega) (fun t ht => by omega) (qe_rf _ _ _) (qe_rf _ _ _)
        refine ⟨sA.2.1.2 H.1, ?_, FT_f H.2.2.1 sA ⟨fun t a b => ?_, fun t a b => ?_, fun t a => ?_, fun t a => ?_⟩ (fun k i a b => ge k i (by omega) (by omega)) (fun k i a b => ge k i (by omega) (by omega)) (fun p hp => hs_of (fun k i a b => ge k i (by omega) (by omega)) (fun k i a b => ge k i (by omega) (by omega)) (fun k i a b => ge k i (by omega) (by omega)) rfl rfl (fun _ _ => rfl) (fun _ _ => rfl)), FP_f H.2.2.2.1 sA (fun t a b => ?_) (fun t a => ?_) (fun k i a b => ge k i (by omega) (by omega)), ⟨?_, fun j hj => ?_⟩, fun c j hc hj => ?_, FL_f H.2.2.2.2.2.2.1 hll sA (fun t a b => ?_) (fun t a => ?_) (ge 82 0 (by decide) (by decide)) (fun l hl => ls_of (fun k i a b => ge k i (by omega) (by omega)) (fun k i _ _ => gL k i) (fun _ _ => rfl)), FD_f H.2.2.2.2.2.2.2 (fun k i a b => ge k i (by omega) (by omega)) (fun k i a b c _ => ge k i (by omega) (by omega))⟩
        any_goals omega
        · obtain ⟨g', ho', hg'⟩ := H1'
          refine ⟨g', ?_, fun i hi => by rw [hg' i hi, ge 1 i (by decide) (by decide)]⟩
          rw [ge 12 0 (by decide) (by decide), ge 13 0 (by decide) (by decide), ge 14 0 (by decide) (by decide)]
          exact ho'
        · rw [g45, List.length_append]; rfl
        · rw [List.length_append, List.length_singleton] at hj
          by_cases ej : j < cl.length
          · rw [List.getElem_append_left ej]
            exact rCall_f (H4.2 j ej) sA (fun t a => by omega) (fun t a => by omega) (fun t a => by omega) (fun k i a b hi => gx k j i (by omega) hi (by omega)) (ge 46 j (by decide) (by decide)) (fun _ _ => rfl) (Nat.le_refl _)
          · have : j = cl.length := by omega
            subst this
            rw [List.getElem_append_right (Nat.le_refl _)]
            simp only [Nat.sub_self, List.getElem_singleton]
            refine ⟨cp, ak, cs', [], bkF q 0 (nu q 12 0), Hc3, sp3, cpv, by omega, ?_, fun j hj => absurd hj (by simp)⟩
            rw [nu_e (ge 46 _ (by decide) (by decide))]
            unfold nu
            rw [z46, nI_clamp (by decide)]
            rfl
        · rw [g45] at hc
          have n46 : nu (glearn cl.length 0 (nu q 12 0) (rup q 45 0 (nI (cl.length + 1)))) 46 c = nu q 46 c := nu_e (ge 46 c (by decide) (by decide))
          rw [n46] at hj
          by_cases ec : c < cl.length
          · have := (B.2.1 c (by omega)).2
            exact rAsk_f (H.2.2.2.2.2.1 c j (by omega) hj) sA (fun t a => by omega) (fun k a b => ge k _ (by omega) (by omega)) (fun k _ _ => gL k _)
          · have : c = cl.length := by omega
            subst this
            unfold nu at hj
            rw [z46, nI_clamp (by decide)] at hj
            omega
