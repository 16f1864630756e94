/-! packNext -/
theorem xdef8 : xdef 8 = [vi 0, vi 0, vi 0, vr none, vr none, vr none, vr none] := by decide
theorem oP_new {T0 MI g a : Nat} {M : xM} {ow : xOw} {lo hi : Int32} (h : M.2.2 a = .inr (8, [vi 0, vi 0, vi 0, vr none, vr none, vr none, vr none])) (o : ow a = (g, 0)) (b : a < M.1) : ∃ M' ow', xZ T0 MI 51 0 [some (vr (some a)), some (vi lo), some (vi hi)] [] M = some (none, M') ∧ oParc M' ow' g a lo hi (nI 0) [] none ∧ stp (fun t => ¬ inP g 0 3 t) 3 9 ow M ow' M' := by
  have d1 : a ≠ M.1 := by omega
  have h1 : (newA M 0 3).2.2 a = .inr (8, [vi 0, vi 0, vi 0, vr none, vr none, vr none, vr none]) := by rw [newA_ne d1]; exact h
  generalize hM1 : xset (newA M 0 3) a (.inr (8, [vi 0, vi 0, vi 0, vr (some M.1), vr none, vr none, vr none])) = M1
  have m1 : M1.1 = M.1 + 1 := by rw [← hM1]; rfl
  have a1 : M1.2.2 a = .inr (8, [vi 0, vi 0, vi 0, vr (some M.1), vr none, vr none, vr none]) := by rw [← hM1]; exact xset_at _ _ _
  have b1 : M1.2.2 M.1 = .inl (0, 3, .inl (fun _ => 0)) := by rw [← hM1, xset_ne _ _ (Ne.symm d1)]; exact newA_at M 0 3
  have d2 : a ≠ M1.1 := by omega
  have h2 : (newA M1 2 3).2.2 a = .inr (8, [vi 0, vi 0, vi 0, vr (some M.1), vr none, vr none, vr none]) := by rw [newA_ne d2]; exact a1
  generalize hM2 : xset (newA M1 2 3) a (.inr (8, [vi 0, vi 0, vi 0, vr (some M.1), vr (some M1.1), vr none, vr none])) = M2
  have m2 : M2.1 = M.1 + 2 := by rw [← hM2]; show M1.1 + 1 = _; omega
  have a2 : M2.2.2 a = .inr (8, [vi 0, vi 0, vi 0, vr (some M.1), vr (some M1.1), vr none, vr none]) := by rw [← hM2]; exact xset_at _ _ _
  have b2 : M2.2.2 M.1 = .inl (0, 3, .inl (fun _ => 0)) := by rw [← hM2, xset_ne _ _ (Ne.symm d1), newA_ne (by omega)]; exact b1
  have c2 : M2.2.2 M1.1 = .inl (2, 3, .inl (fun _ => 0)) := by rw [← hM2, xset_ne _ _ (Ne.symm d2)]; exact newA_at M1 2 3
  have d3 : a ≠ M2.1 := by omega
  have h3 : (newA M2 1 3).2.2 a = .inr (8, [vi 0, vi 0, vi 0, vr (some M.1), vr (some M1.1), vr none, vr none]) := by rw [newA_ne d3]; exact a2
  generalize hM3 : xset (newA M2 1 3) a (.inr (8, [vi 0, vi 0, vi 0, vr (some M.1), vr (some M1.1), vr (some M2.1), vr none])) = M3
  have m3 : M3.1 = M.1 + 3 := by rw [← hM3]; show M2.1 + 1 = _; omega
  have a3 : M3.2.2 a = .inr (8, [vi 0, vi 0, vi 0, vr (some M.1), vr (some M1.1), vr (some M2.1), vr none]) := by rw [← hM3]; exact xset_at _ _ _
  have b3 : M3.2.2 M.1 = .inl (0, 3, .inl (fun _ => 0)) := by rw [← hM3, xset_ne _ _ (Ne.symm d1), newA_ne (by omega)]; exact b2
  have c3 : M3.2.2 M1.1 = .inl (2, 3, .inl (fun _ => 0)) := by rw [← hM3, xset_ne _ _ (Ne.symm d2), newA_ne (by omega)]; exact c2
  have e3 : M3.2.2 M2.1 = .inl (1, 3, .inr (.inl (fun _ => 0))) := by rw [← hM3, xset_ne _ _ (Ne.symm d3)]; exact newA_at M2 1 3
  generalize hw1 : va_up ow M.1 (g, 1) = w1
  have wa1 : w1 a = (g, 0) := by rw [← hw1, va_up_ne _ _ d1]; exact o
  have wb1 : w1 M.1 = (g, 1) := by rw [← hw1, va_up_self]
  generalize hw2 : va_up w1 M1.1 (g, 2) = w2
  have wa2 : w2 a = (g, 0) := by rw [← hw2, va_up_ne _ _ d2]; exact wa1
  have wb2 : w2 M.1 = (g, 1) := by rw [← hw2, va_up_ne _ _ (by omega)]; exact wb1
  have wc2 : w2 M1.1 = (g, 2) := by rw [← hw2, va_up_self]
  generalize hw3 : va_up w2 M2.1 (g, 3) = w3
  have wa3 : w3 a = (g, 0) := by rw [← hw3, va_up_ne _ _ d3]; exact wa2
  have wb3 : w3 M.1 = (g, 1) := by rw [← hw3, va_up_ne _ _ (by omega)]; exact wb2
  have wc3 : w3 M1.1 = (g, 2) := by rw [← hw3, va_up_ne _ _ (by omega)]; exact wc2
  have wd3 : w3 M2.1 = (g, 3) := by rw [← hw3, va_up_self]
  have nP : ∀ w : xOw, w a = (g, 0) → ¬ (fun t => ¬ inP g 0 3 t) (w a) := fun w hw => by
    show ¬ ¬ inP g 0 3 (w a)
    rw [hw]
    exact fun h => h (inP_i (by decide) (by decide))
  have s1 := stp_tr (newA_stp (fun t => ¬ inP g 0 3 t) ow M 0 3 (g, 1) (fun hb => bnd_g hb b o)) (stp_set (P := fun t => ¬ inP g 0 3 t) (ow := va_up ow M.1 (g, 1)) (M := newA M 0 3) (a := a) (e := .inr (8, [vi 0, vi 0, vi 0, vr (some M.1), vr none, vr none, vr none])) (by rw [hw1]; exact nP w1 wa1))
  rw [hM1, hw1] at s1
  have s2 := stp_tr s1 (stp_tr (newA_stp (fun t => ¬ inP g 0 3 t) w1 M1 2 3 (g, 2) (fun hb => bnd_g hb (show a < M1.1 by omega) wa1)) (stp_set (P := fun t => ¬ inP g 0 3 t) (ow := va_up w1 M1.1 (g, 2)) (M := newA M1 2 3) (a := a) (e := .inr (8, [vi 0, vi 0, vi 0, vr (some M.1), vr (some M1.1), vr none, vr none])) (by rw [hw2]; exact nP w2 wa2)))
  rw [hM2, hw2] at s2
  have s3 := stp_tr s2 (stp_tr (newA_stp (fun t => ¬ inP g 0 3 t) w2 M2 1 3 (g, 3) (fun hb => bnd_g hb (show a < M2.1 by omega) wa2)) (stp_set (P := fun t => ¬ inP g 0 3 t) (ow := va_up w2 M2.1 (g, 3)) (M := newA M2 1 3) (a := a) (e := .inr (8, [vi 0, vi 0, vi 0, vr (some M.1), vr (some M1.1), vr (some M2.1), vr none])) (by rw [hw3]; exact nP w3 wa3)))
  rw [hM3, hw3] at s3
  have s4 := stp_tr s3 (stp_set (P := fun t => ¬ inP g 0 3 t) (ow := w3) (M := M3) (a := a) (e := .inr (8, [vi lo, vi hi, vi 0, vr (some M.1), vr (some M1.1), vr (some M2.1), vr none])) (nP w3 wa3))
  refine ⟨_, _, ?_, ⟨M.1, M1.1, M2.1, fun _ => 0, fun _ => 0, fun _ => 0, xset_at _ _ _, ?_, ?_, ?_, by simp, fun j hj => by simp at hj, ⟨wa3, wb3, wc3, wd3⟩, ?_, ?_, ?_, ?_⟩, stp_w s4 (fun _ h => h) (by omega) (by omega)⟩
  · have p1 : xput (newA M 0 3) a 8 3 (vr (some M.1)) = some M1 := (pV h1 3 rfl _).trans (congrArg some hM1)
    have p2 : xput (newA M1 2 3) a 8 4 (vr (some M1.1)) = some M2 := (pV h2 4 rfl _).trans (congrArg some hM2)
    have p3 : xput (newA M2 1 3) a 8 5 (vr (some M2.1)) = some M3 := (pV h3 5 rfl _).trans (congrArg some hM3)
    have a4 : (xset M3 a (.inr (8, [vi lo, vi 0, vi 0, vr (some M.1), vr (some M1.1), vr (some M2.1), vr none]))).2.2 a = .inr (8, [vi lo, vi 0, vi 0, vr (some M.1), vr (some M1.1), vr (some M2.1), vr none]) := xset_at _ _ _
    rw [bq_51_0, k_3, xnewA_n (by omega), Option.bind_some, p1, Option.bind_some, xnewA_n (by omega), Option.bind_some, p2, Option.bind_some, xnewA_n (by omega), Option.bind_some, p3, Option.bind_some, pV a3 0 rfl, Option.bind_some]
    show ((xput (xset M3 a (.inr (8, [vi lo, vi 0, vi 0, vr (some M.1), vr (some M1.1), vr (some M2.1), vr none]))) a 8 1 (vi hi)).bind _) = _
    rw [pV a4 1 rfl, Option.bind_some, xset_xset]
    rfl
  · rw [xset_ne _ _ (Ne.symm d1)]; exact b3
  · rw [xset_ne _ _ (Ne.symm d2)]; exact c3
  · rw [xset_ne _ _ (Ne.symm d3)]; exact e3
  · show a < M3.1; omega
  · show M.1 < M3.1; omega
  · show M1.1 < M3.1; omega
  · show M2.1 < M3.1; omega
/-! lists -/
theorem chL_mono {R : RW} {w : Bool} {acc : PW} {key : Int32} : acc.length ≤ (chL R w acc key).length := by
  unfold chL
  split
  · exact Nat.le_refl _
  · rw [List.length_append]; omega
theorem foldl_chL_mono {R : RW} {w : Bool} : ∀ (s : List Int32) (acc : PW), acc.length ≤ (s.foldl (chL R w) acc).length
  | [], _ => Nat.le_refl _
  | k :: s, acc => Nat.le_trans chL_mono (foldl_chL_mono s (chL R w acc k))
theorem gvA_0 (R : RW) (S : List Int32) : (gvA R S).length = 0 ↔ S.length = 0 := by
  constructor
  · intro h
    cases S with
    | nil => rfl
    | cons k s =>
      exfalso
      unfold gvA at h
      have m1 := foldl_chL_mono (R := R) (w := true) (k :: s) ((k :: s).foldl (chL R false) [])
      rw [List.foldl_cons] at m1
      have m2 := foldl_chL_mono (R := R) (w := true) s (chL R true ((k :: s).foldl (chL R false) []) k)
      rw [List.foldl_cons] at h
      cases hs : (lkp Prod.fst k R).isSome with
      | false =>
        have m3 : 1 ≤ ((k :: s).foldl (chL R false) []).length := by
          rw [List.foldl_cons]
          refine Nat.le_trans ?_ (foldl_chL_mono s _)
          unfold chL
          rw [if_neg (by rw [hs]; simp)]
          simp
        have m4 := chL_mono (R := R) (w := true) (acc := (k :: s).foldl (chL R false) []) (key := k)
        omega
      | true =>
        have m4 : ∀ acc : PW, 1 ≤ (chL R true acc k).length := by
          intro acc
          unfold chL
          by_cases e3 : acc.length = 3
          · rw [if_pos (Or.inl e3)]; omega
          · rw [if_neg (by rw [hs]; simp; exact e3)]
            simp
        have := m4 ((k :: s).foldl (chL R false) [])
        omega
  · intro h
    cases S with
    | nil => rfl
    | cons k s => cases h
theorem rst_fold : ∀ (ks S : List Int32), ks.foldl (fun s k => dropK id k s) S = rstS ks S
  | [], S => by
    unfold rstS
    refine (List.filter_eq_self.mpr (fun x _ => ?_)).symm
    simp
  | k :: ks, S => by
    rw [List.foldl_cons, rst_fold ks (dropK id k S)]
    unfold rstS dropK
    rw [List.filter_filter]
    congr 1
    funext x
    by_cases e1 : x = k
    · simp [e1]
    · by_cases e2 : x ∈ ks
      · simp [e1, e2]
      · simp [e1, e2]
/-- those that go are no more to be sent -/
theorem c_pn_l {T0 MI g g' a ra ka sa p : Nat} {ow : xOw} {h : Nat → Int32} {R : RW} {K : Nat → KW} {lo hi : Int32} {ps : PW} {kp : Option Nat} (hg : g ≠ g') : ∀ m i, i + m = ps.length → ∀ (M : xM) (S : List Int32), oHA M ow g a ra ka sa h (some p) R K S → oParc M ow g' p lo hi (nI ps.length) ps kp → ∃ M', xZ T0 MI 20 83 [some (vr (some a)), some (vi (nI i))] [] M = some (none, M') ∧ oHA M' ow g a ra ka sa h (some p) R K (((ps.drop i).map Prod.fst).foldl (fun s k => dropK id k s) S) ∧ oParc M' ow g' p lo hi (nI ps.length) ps kp ∧ stp (off g) 0 0 ow M ow M' := by
  intro m
  induction m with
  | zero =>
    intro i hi M S H hp
    have hl3 : ps.length ≤ 3 := by
      obtain ⟨_, _, _, _, _, _, _, _, _, _, q, _⟩ := hp
      exact q
    refine ⟨M, ?_, ?_, hp, stp_rf _ _ _⟩
    · rw [bq_20_83, hA_11 H, Option.bind_some, Option.bind_some, (oP_c hp).2.2.2.1, Option.bind_some, if_pos (by rw [nI_leI (by omega) (by omega)]; omega), bq_20_116]
    · rw [List.drop_eq_nil_of_le (by omega)]
      exact H
  | succ m ih =>
    intro i hi M S H hp
    have hp' := hp
    obtain ⟨ka', ta, va, f, t, w, h1, h2, h3, h4, hl3, h6, -⟩ := hp'
    have hii : i < ps.length := by omega
    have ra1 : xaI M ka' (nI i) = some (ps[i]).1 := by rw [aI h2, xin_t (by omega) (by omega), nI_clamp (by omega), h6 i hii]; rfl
    obtain ⟨M1, e1, k1, s1⟩ := oS_drop (T0 := T0) (MI := MI) (key := (ps[i]).1) (o2 := none) (o3 := none) H.2.2.2.2.2
    have H1 := hA_keys H k1 s1
    have p1 := oParc_f hp s1 (fun t ht e => hg (e.1.symm.trans ht.1))
    obtain ⟨M2, e2, H2, p2, s2⟩ := ih (i + 1) (by omega) M1 _ H1 p1
    refine ⟨M2, ?_, ?_, p2, stp_tr (off_r s1) s2⟩
    · rw [bq_20_83, hA_11 H, Option.bind_some, Option.bind_some, (oP_c hp).2.2.2.1, Option.bind_some, if_neg (by rw [nI_leI (by omega) (by omega)]; omega), bq_20_94, hA_13 H, Option.bind_some, hA_11 H, Option.bind_some, Option.bind_some, gR h1 3 rfl, Option.bind_some, Option.bind_some, ra1, Option.bind_some, Option.bind_some, oS_cls H.2.2.2.2.2, cond_true, e1]
      simp (decide := true) (disch := omega) only [Option.bind_some, xasI, xasL, xasR, xin_t, cond_true, cond_false, nI_clamp, k_0, k_1, k_2, k_3, k_4, k_5, k_6, k_40, k_60, k_500, k_10000, pk_mul, nI_add, nI_e0, nI_ee, nI_leI, nI_ltI, xbool0, xbool1, xbn0, xbn1, xb_0, xb_1, reduceIte, one0, Option.isNone_none, ne_eq, not_true_eq_false, not_false_eq_true, if_true, if_false, ite_not, Bool.true_and, Bool.and_true]
      rw [bq_20_110, nI_s, e2]
    · rw [drop_s _ hii, List.map_cons, List.foldl_cons]
      exact H2
theorem stp_fresh {g g' x y : Nat} {ow ow' : xOw} {M M' : xM} (h : stp (fun t => t.1 ≠ g ∧ t.1 ≠ g') x y ow M ow' M') (hn : ∀ b, b < M.1 → (ow b).1 ≠ g') : stp (off g) x y ow M ow' M' := ⟨h.1, h.2.1, h.2.2.1, fun b hb => ⟨(h.2.2.2 b hb).1, fun hP => (h.2.2.2 b hb).2 ⟨hP, hn b hb⟩⟩⟩
/-- packNext -/
theorem c_packN {T0 MI : Nat} {ow : xOw} {M : xM} {g g' a ra ka sa : Nat} {h : Nat → Int32} {sn : Option Nat} {R : RW} {K : Nat → KW} {S : List Int32} {o1 : Option xV} (H : oHA M ow g a ra ka sa h sn R K S) (hg : g ≠ g') (hfr : bnd ow M → g' < 10000 + (M.1 + 1)) (hnew : ∀ b, b < M.1 → (ow b).1 ≠ g') : ∃ M' ow', xZ T0 MI 20 0 [some (vr (some a)), o1] [] M = some (none, M') ∧ stp (off g) 9 98 ow M ow' M' ∧ (if S.length = 0 then oHA M' ow' g a ra ka sa (upd h 0 (nI 3)) (some M.1) R K S ∧ ∃ kk, oParc M' ow' g' M.1 (h 1) (h 2) (Int32.ofInt (-1)) [] (some kk) ∧ oKept M' ow' g' kk K else oHA M' ow' g a ra ka sa h (some M.1) R K (rstS ((gvA R S).map Prod.fst) S) ∧ oParc M' ow' g' M.1 (h 1) (h 2) (nI (gvA R S).length) (gvA R S) none) := by
  have hg' : g' ≠ g := Ne.symm hg
  have bM := H.2.2.1
  -- the parcel is made
  have s0 := newO_stp (off g) ow M 8 (g', 0) hfr
  have H0 : oHA (xnewO M 8) (va_up ow M.1 (g', 0)) g a ra ka sa h sn R K S := hA_f H (newO_stp (fun _ => True) ow M 8 (g', 0) hfr) (fun _ _ => trivial)
  have c0 : (xnewO M 8).2.2 M.1 = .inr (8, [vi 0, vi 0, vi 0, vr none, vr none, vr none, vr none]) := by rw [newO_at, xdef8]
  obtain ⟨M1, ow1, e1, p1, s1⟩ := oP_new (T0 := T0) (MI := MI) (lo := h 1) (hi := h 2) c0 (va_up_self ow M.1 (g', 0)) (Nat.lt_succ_self _)
  have H1 := hA_f H0 s1 (fun t ht e => hg (ht.symm.trans e.1))
  obtain ⟨M2, e2, H2, s2⟩ := hA_sn H1 (some M.1)
  have p2 := oParc_f p1 s2 (fun t ht e => hg (by rw [e] at ht; exact ht.1))
  obtain ⟨M3, e3, p3, s3⟩ := c_pack (T0 := T0) (MI := MI) (w := false) hg S.length 0 (by omega) M2 [] none H2 p2
  have H3 := hA_f H2 s3 (fun t ht e => hg (ht.symm.trans e.1))
  rw [List.drop_zero] at p3
  obtain ⟨M4, e4, p4, s4⟩ := c_pack (T0 := T0) (MI := MI) (w := true) hg S.length 0 (by omega) M3 _ none H3 p3
  have H4 := hA_f H3 s4 (fun t ht e => hg (ht.symm.trans e.1))
  rw [List.drop_zero] at p4
  have st : xZ T0 MI 20 0 [some (vr (some a)), o1] [] M = xZ T0 MI 20 29 [some (vr (some a)), o1] [] M4 := by
    have e3' : xZ T0 MI 21 0 [some (vr (some a)), some (vi (Int32.ofInt 0)), none, none] [] M2 = some (none, M3) := by rw [bq_21_0]; exact e3
    have e4' : xZ T0 MI 21 0 [some (vr (some a)), some (vi (Int32.ofInt 1)), none, none] [] M3 = some (none, M4) := by rw [bq_21_0]; exact e4
    rw [bq_20_0, hA_g H0 1 (by simp), Option.bind_some, hA_g H0 2 (by simp), Option.bind_some, e1]
    simp (decide := true) (disch := omega) only [Option.bind_some, xasI, xasL, xasR, xin_t, cond_true, cond_false, nI_clamp, k_0, k_1, k_2, k_3, k_4, k_5, k_6, k_40, k_60, k_500, k_10000, pk_mul, nI_add, nI_e0, nI_ee, nI_leI, nI_ltI, xbool0, xbool1, xbn0, xbn1, xb_0, xb_1, reduceIte, one0, Option.isNone_none, ne_eq, not_true_eq_false, not_false_eq_true, if_true, if_false, ite_not, Bool.true_and, Bool.and_true]
    rw [bq_20_16, e2, Option.bind_some, hA_c H2, cond_true, e3']
    simp (decide := true) (disch := omega) only [Option.bind_some, xasI, xasL, xasR, xin_t, cond_true, cond_false, nI_clamp, k_0, k_1, k_2, k_3, k_4, k_5, k_6, k_40, k_60, k_500, k_10000, pk_mul, nI_add, nI_e0, nI_ee, nI_leI, nI_ltI, xbool0, xbool1, xbn0, xbn1, xb_0, xb_1, reduceIte, one0, Option.isNone_none, ne_eq, not_true_eq_false, not_false_eq_true, if_true, if_false, ite_not, Bool.true_and, Bool.and_true]
    rw [bq_20_24, hA_c H3, cond_true, e4']
    simp (decide := true) (disch := omega) only [Option.bind_some, xasI, xasL, xasR, xin_t, cond_true, cond_false, nI_clamp, k_0, k_1, k_2, k_3, k_4, k_5, k_6, k_40, k_60, k_500, k_10000, pk_mul, nI_add, nI_e0, nI_ee, nI_leI, nI_ltI, xbool0, xbool1, xbn0, xbn1, xb_0, xb_1, reduceIte, one0, Option.isNone_none, ne_eq, not_true_eq_false, not_false_eq_true, if_true, if_false, ite_not, Bool.true_and, Bool.and_true]
  have gvl : (gvA R S).length ≤ 3 := gvA_len R S
  have g2 : xgetI M4 M.1 8 2 = some (nI (gvA R S).length) := (oP_c p4).2.2.2.1
  have qn : ∀ t : Nat × Nat, (t.1 ≠ g ∧ t.1 ≠ g') → ¬ inP g' 0 3 t := fun t ht e => ht.2 e.1
  have q0 : ∀ t : Nat × Nat, (t.1 ≠ g ∧ t.1 ≠ g') → t ≠ (g, 0) := fun t ht e => ht.1 (by rw [e])
  have qr : ∀ {lo hi : Nat} (t : Nat × Nat), (t.1 ≠ g ∧ t.1 ≠ g') → ¬ inP g lo hi t := fun t ht e => ht.1 e.1
  have qk : ∀ {lo hi : Nat} (t : Nat × Nat), (t.1 ≠ g ∧ t.1 ≠ g') → ¬ inP g' lo hi t := fun t ht e => ht.2 e.1
  have sA : stp (fun t => t.1 ≠ g ∧ t.1 ≠ g') 4 16 ow M ow1 M4 := stp_tr (x := 4) (y := 16) (x' := 0) (y' := 0) (stp_tr (x := 4) (y := 16) (x' := 0) (y' := 0) (stp_tr (x := 4) (y := 16) (x' := 0) (y' := 0) (stp_tr (x := 1) (y := 7) (x' := 3) (y' := 9) (newO_stp (fun t => t.1 ≠ g ∧ t.1 ≠ g') ow M 8 (g', 0) hfr) (stp_w s1 qn (Nat.le_refl _) (Nat.le_refl _))) (stp_w s2 q0 (Nat.le_refl _) (Nat.le_refl _))) (stp_w s3 qn (Nat.le_refl _) (Nat.le_refl _))) (stp_w s4 qn (Nat.le_refl _) (Nat.le_refl _))
  by_cases e0 : S.length = 0
  · -- the END
    have l0 : (gvA R S).length = 0 := (gvA_0 R S).mpr e0
    have ge : gvA R S = [] := List.eq_nil_of_length_eq_zero l0
    have p4' : oParc M4 ow1 g' M.1 (h 1) (h 2) (nI 0) [] none := by
      have := p4
      change oParc M4 ow1 g' M.1 (h 1) (h 2) (nI (gvA R S).length) (gvA R S) none at this
      rw [ge] at this
      exact this
    obtain ⟨M5, e5, H5, s5⟩ := hA_i H4 0 (nI 3) (by simp)
    have p5 := oParc_f p4' s5 (fun t ht e => hg (by rw [e] at ht; exact ht.1))
    obtain ⟨pk, pt, pv, f, t, w, h1, h2, h3, h4, h5, h6, o, b⟩ := p5
    have h1' := h1
    generalize hM6 : xset M5 M.1 (.inr (8, [vi (h 1), vi (h 2), vi (Int32.ofInt (-1)), vr (some pk), vr (some pt), vr (some pv), vr none])) = M6
    have pu : xput M5 M.1 8 2 (vi (Int32.ofInt (-1))) = some M6 := (pV h1 2 rfl _).trans (congrArg some hM6)
    have s6 : stp (fun t => ¬ inP g' 0 3 t) 0 0 ow1 M5 ow1 M6 := by
      rw [← hM6]
      exact stp_set (by rw [o.1]; exact fun h => h (inP_i (by decide) (by decide)))
    have H6 := hA_f H5 s6 (fun t ht e => hg (ht.symm.trans e.1))
    have a6 : M6.2.2 M.1 = .inr (8, [vi (h 1), vi (h 2), vi (Int32.ofInt (-1)), vr (some pk), vr (some pt), vr (some pv), vr none]) := by rw [← hM6]; exact xset_at _ _ _
    have m6 : M6.1 = M5.1 := by rw [← hM6]; rfl
    -- the copy of what is kept
    have hgb : bnd ow1 M6 → (g', 4).1 < 10000 + (M6.1 + 1) := fun hb => bnd_g hb (by rw [m6]; exact b.1) o.1
    have c7 : (xnewO M6 4).2.2 M6.1 = .inr (4, [vr none, vr none, vr none, vr none]) := by rw [newO_at, xdef4]
    obtain ⟨M7, ow7, e7, k7, s7⟩ := oK_new (T0 := T0) (MI := MI) c7 (va_up_self ow1 M6.1 (g', 4)) (Nat.lt_succ_self _)
    have sn6 := newO_stp (fun _ => True) ow1 M6 4 (g', 4) hgb
    have H7 := hA_f (hA_f H6 sn6 (fun _ _ => trivial)) s7 (fun t ht e => hg (ht.symm.trans e.1))
    have bp : M.1 < M6.1 := by rw [m6]; exact b.1
    have a7 : M7.2.2 M.1 = .inr (8, [vi (h 1), vi (h 2), vi (Int32.ofInt (-1)), vr (some pk), vr (some pt), vr (some pv), vr none]) := by
      rw [(s7.2.2.2 M.1 (Nat.lt_succ_of_lt bp)).2 (by
        rw [(sn6.2.2.2 M.1 bp).1, o.1]
        exact fun h => absurd h.2.1 (by simp))]
      rw [newO_ne (by omega)]
      exact a6
    have o7 : ow7 M.1 = (g', 0) := by rw [(s7.2.2.2 M.1 (Nat.lt_succ_of_lt bp)).1, (sn6.2.2.2 M.1 bp).1, o.1]
    generalize hM8 : xset M7 M.1 (.inr (8, [vi (h 1), vi (h 2), vi (Int32.ofInt (-1)), vr (some pk), vr (some pt), vr (some pv), vr (some M6.1)])) = M8
    have pu8 : xput M7 M.1 8 6 (vr (some M6.1)) = some M8 := (pV a7 6 rfl _).trans (congrArg some hM8)
    have s8 : stp (fun t => t ≠ (g', 0)) 0 0 ow7 M7 ow7 M8 := by
      rw [← hM8]
      exact stp_set (by rw [o7]; exact fun h => h rfl)
    have H8 := hA_f H7 s8 (fun t ht e => hg (by rw [e] at ht; exact ht.symm))
    have k8 := oKept_f k7 s8 (fun t ht e => by rw [e] at ht; exact absurd ht.2.1 (by simp))
    have a8 : M8.2.2 M.1 = .inr (8, [vi (h 1), vi (h 2), vi (Int32.ofInt (-1)), vr (some pk), vr (some pt), vr (some pv), vr (some M6.1)]) := by rw [← hM8]; exact xset_at _ _ _
    obtain ⟨M9, e9, k9, s9⟩ := oK_become (T0 := T0) (MI := MI) k8 H8.2.2.2.2.1 (Ne.symm hg)
    have H9 := hA_f H8 s9 (fun t ht e => hg (ht.symm.trans e.1))
    -- the parcel at the end
    have keep : ∀ z, z < M6.1 → (ow1 z = (g', 0) ∨ ow1 z = (g', 1) ∨ ow1 z = (g', 2) ∨ ow1 z = (g', 3)) → z ≠ M.1 → M9.2.2 z = M6.2.2 z ∧ ow7 z = ow1 z ∧ z < M9.1 := by
      intro z hz hoz hzM
      have np : ∀ w : xOw, w z = ow1 z → ¬ inP g' 4 8 (w z) := fun w hw e => by
        rw [hw] at e
        rcases hoz with h | h | h | h <;> (rw [h] at e; exact absurd e.2.1 (by simp))
      have z1 := sn6.2.2.2 z hz
      have z2 := s7.2.2.2 z (Nat.lt_succ_of_lt hz)
      have z3 : z < M7.1 := by have := s7.1; have : M6.1 + 1 ≤ M7.1 := this; omega
      have w7 : ow7 z = ow1 z := z2.1.trans z1.1
      have z4 := s8.2.2.2 z z3
      have z5 := s9.2.2.2 z (by have := s8.1; omega)
      refine ⟨?_, w7, by have := s8.1; have := s9.1; omega⟩
      rw [z5.2 (np ow7 w7)]
      have : M8.2.2 z = M7.2.2 z := by rw [← hM8]; exact xset_ne _ _ hzM
      rw [this, z2.2 (np _ z1.1), z1.2 trivial]
    have a9 : M9.2.2 M.1 = M8.2.2 M.1 := (s9.2.2.2 M.1 (by have := s8.1; have := s7.1; have : M6.1 + 1 ≤ M7.1 := this; omega)).2 (by rw [o7]; exact fun h => absurd h.2.1 (by simp))
    have d1 : pk ≠ M.1 := ow_ne o.2.1 o.1 (by simp)
    have d2 : pt ≠ M.1 := ow_ne o.2.2.1 o.1 (by simp)
    have d3 : pv ≠ M.1 := ow_ne o.2.2.2 o.1 (by simp)
    obtain ⟨x1, x2, x3⟩ := keep pk (by rw [m6]; exact b.2.1) (Or.inr (Or.inl o.2.1)) d1
    obtain ⟨y1, y2, y3⟩ := keep pt (by rw [m6]; exact b.2.2.1) (Or.inr (Or.inr (Or.inl o.2.2.1))) d2
    obtain ⟨z1, z2, z3⟩ := keep pv (by rw [m6]; exact b.2.2.2) (Or.inr (Or.inr (Or.inr o.2.2.2))) d3
    have r6 : ∀ z, z ≠ M.1 → M6.2.2 z = M5.2.2 z := fun z hz => by rw [← hM6]; exact xset_ne _ _ hz
    refine ⟨M9, ow7, ?_, ?_, ?_⟩
    · rw [st, bq_20_29, hA_11 H4, Option.bind_some, Option.bind_some, g2, Option.bind_some, l0, if_pos (by decide), bq_20_39, k_3, e5, Option.bind_some, hA_11 H5, Option.bind_some, Option.bind_some, pu, Option.bind_some, hA_11 H6, Option.bind_some, e7]
      simp (decide := true) (disch := omega) only [Option.bind_some, xasI, xasL, xasR, xin_t, cond_true, cond_false, nI_clamp, k_0, k_1, k_2, k_3, k_4, k_5, k_6, k_40, k_60, k_500, k_10000, pk_mul, nI_add, nI_e0, nI_ee, nI_leI, nI_ltI, xbool0, xbool1, xbn0, xbn1, xb_0, xb_1, reduceIte, one0, Option.isNone_none, ne_eq, not_true_eq_false, not_false_eq_true, if_true, if_false, ite_not, Bool.true_and, Bool.and_true]
      rw [bq_20_63, Option.bind_some, pu8, Option.bind_some, hA_11 H8, Option.bind_some, Option.bind_some, gR a8 6 rfl, Option.bind_some, hA_5 H8, Option.bind_some, Option.bind_some, oK_cls k8, cond_true, e9]
      simp (decide := true) (disch := omega) only [bq_20_80, Option.bind_some, xasI, xasL, xasR, xin_t, cond_true, cond_false, nI_clamp, k_0, k_1, k_2, k_3, k_4, k_5, k_6, k_40, k_60, k_500, k_10000, pk_mul, nI_add, nI_e0, nI_ee, nI_leI, nI_ltI, xbool0, xbool1, xbn0, xbn1, xb_0, xb_1, reduceIte, one0, Option.isNone_none, ne_eq, not_true_eq_false, not_false_eq_true, if_true, if_false, ite_not, Bool.true_and, Bool.and_true]
    · have w1 := stp_tr (x := 4) (y := 16) (x' := 0) (y' := 0) (stp_tr (x := 4) (y := 16) (x' := 0) (y' := 0) sA (stp_w s5 q0 (Nat.le_refl _) (Nat.le_refl _))) (stp_w s6 qn (Nat.le_refl _) (Nat.le_refl _))
      have w2 := stp_tr w1 (stp_tr (newO_stp (fun t => t.1 ≠ g ∧ t.1 ≠ g') ow1 M6 4 (g', 4) hgb) (stp_w s7 qk (Nat.le_refl _) (Nat.le_refl _)))
      have w3 := stp_tr w2 (stp_tr (stp_w s8 (fun t ht e => ht.2 (by rw [e])) (Nat.le_refl _) (Nat.le_refl _)) (stp_w s9 qk (Nat.le_refl _) (Nat.le_refl _)))
      exact stp_w (stp_fresh w3 hnew) (fun _ h => h) (by decide) (by decide)
    · rw [if_pos e0]
      refine ⟨H9, M6.1, ⟨pk, pt, pv, f, t, w, ?_, ?_, ?_, ?_, by simp, fun j hj => by simp at hj, ⟨o7, x2.trans o.2.1, y2.trans o.2.2.1, z2.trans o.2.2.2⟩, ?_, x3, y3, z3⟩, k9⟩
      · rw [a9]; exact a8
      · rw [x1, r6 _ d1]; exact h2
      · rw [y1, r6 _ d2]; exact h3
      · rw [z1, r6 _ d3]; exact h4
      · have := s9.1; have := s8.1; have := s7.1; have : M6.1 + 1 ≤ M7.1 := this; omega
  · -- a part
    have l0 : (gvA R S).length ≠ 0 := fun e => e0 ((gvA_0 R S).mp e)
    obtain ⟨M5, e5, H5, p5, s5⟩ := c_pn_l (T0 := T0) (MI := MI) (ps := gvA R S) hg (gvA R S).length 0 (by omega) M4 S H4 p4
    rw [List.drop_zero, rst_fold] at H5
    refine ⟨M5, ow1, ?_, stp_w (stp_fresh (stp_tr sA (stp_w s5 (fun t ht => ht.1) (Nat.le_refl _) (Nat.le_refl _))) hnew) (fun _ h => h) (by decide) (by decide), by rw [if_neg e0]; exact ⟨H5, p5⟩⟩
    rw [st, bq_20_29, hA_11 H4, Option.bind_some, Option.bind_some, g2, Option.bind_some, if_neg (by rw [nI_e0 (by omega)]; exact l0), bq_20_81, k_0, e5]
