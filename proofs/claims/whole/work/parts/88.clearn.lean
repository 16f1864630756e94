/-! learn, caller -/
theorem Rep_ca {T0 X n n' x y c : Nat} {ad : Nat → Nat} {fh fp : Nat → Option Nat} {cl ll dl : List Nat} {aa : Nat → Nat} {pk : Nat → Option Nat} {q q' : xrho} {L : xLs} {M M' : xM} {ow ow' : xOw} (H : Rep T0 X n ad fh fp cl ll dl aa pk q L M ow) (B : bds q) (hn : n ≤ n') (hc : c < cl.length) (hs : stp (fun t => t.1 ≠ 500 + c) x y ow M ow' M') (hL : rCall T0 M' ow' c cl[c] q' aa n') (e : ∀ k i, k < 55 ∨ 60 ≤ k → q'.1 k i = q.1 k i) (e2 : ∀ k c' i, c' ≠ c → i < 10000 → q'.1 k (10000 * c' + i) = q.1 k (10000 * c' + i)) (eL : ∀ k i, q'.2 k i = q.2 k i) : Rep T0 X n' ad fh fp cl ll dl aa pk q' L M' ow' := by
  obtain ⟨H0, H1, H2, H3, H4, H5, H6, H7⟩ := H
  have hll : ll.length ≤ 1200 := by rw [H6.1]; exact B.2.2.1.2
  have hcl : cl.length ≤ 6 := by rw [H4.1]; exact B.1.2
  refine ⟨hs.2.1.2 H0, FH_f H1 hs (fun t a => ?_) (fun t a => ?_) (fun k i a b => e k i (by omega)) (fun k i a b => e k i (by omega)), FT_f H2 hs ⟨fun t a b => ?_, fun t a b => ?_, fun t a => ?_, fun t a => ?_⟩ (fun k i a b => e k i (by omega)) (fun k i a b => e k i (by omega)) (fun p hp => hs_of (fun k i a b => e k i (by omega)) (fun k i a b => e k i (by omega)) (fun k i a b => e k i (by omega)) rfl rfl (fun _ _ => rfl) (fun _ _ => rfl)), FP_f H3 hs (fun t a b => ?_) (fun t a => ?_) (fun k i a b => e k i (by omega)), ⟨?_, fun j hj => ?_⟩, FA_f H5 B.1.2 (fun c hc => (B.2.1 c hc).2) hs (fun t a b => ?_) (fun k i a b => e k i (by omega)) (fun k i _ _ => eL k i), FL_f H6 hll hs (fun t a b => ?_) (fun t a => ?_) (e 82 0 (by decide)) (fun l hl => ls_of (fun k i a b => e k i (by omega)) (fun k i _ _ => eL k i) (fun _ _ => rfl)), FD_f H7 (fun k i a b => e k i (by omega)) (fun k i a b c _ => e k i (by omega))⟩
  any_goals omega
  · unfold nu
    rw [e 45 0 (by decide)]
    exact H4.1
  · by_cases ej : j = c
    · subst ej
      exact hL
    · exact rCall_f (H4.2 j hj) hs (fun t a => by omega) (fun t a => by omega) (fun t a => by omega) (fun k i _ _ hi => e2 k j i ej hi) (e 46 j (by decide)) (fun _ _ => rfl) hn
theorem gthere_F (q q' : xrho) (h : ∀ r, q'.1 2 r = q.1 2 r) : ∀ m r, gthere q' r m = (bkF q r m).length
  | 0, _ => rfl
  | m + 1, r => by
    unfold gthere bkF
    rw [gthere_F q q' h m (r + 1), h r]
    by_cases e : q.1 2 r = 0
    · rw [if_pos e, if_pos e, Nat.zero_add]
    · rw [if_neg e, if_neg e, List.length_cons, Nat.add_comm]
theorem P_learn {T0 MI X n : Nat} {q : xrho} {L : xLs} {M : xM} {ow : xOw} {x : Int32} {o2 : Option xV} (H : RepE T0 X n q L M ow) (B : bds q) (K : bkOK q) : ∃ M' ow', xZ T0 MI 69 0 [some (vr (some X)), some (vi x), o2] [] M = some (some (vi (glearnP q x).1), M') ∧ RepE T0 X n (glearnP q x).2 L M' ow' ∧ stp ext 40 3600 ow M ow' M' := by
  have HE := H
  obtain ⟨ad, fh, fp, cl, ll, dl, aa, pk, H⟩ := H
  have H4 := H.2.2.2.2.1
  have b := B.1.2
  rw [bq_69_0, (ho_c H.2.1).1, cond_true, c_callerOf H.2.1 H4]
  unfold glearnP
  cases hx : ix x (nu q 45 0) with
  | none =>
    obtain ⟨M', e, h, s⟩ := P_ref (MI := MI) (i := 1) (x' := 40) (y' := 3600) (x := Int32.ofInt (-1)) HE B (by decide) rfl
    refine ⟨M', ow, ?_, h, s⟩
    simp (decide := true) (disch := omega) only [Option.bind_some, xasI, xasL, xasR, xin_t, cond_true, cond_false, nI_clamp, k_0, k_1, k_2, k_3, k_4, k_5, k_6, k_40, k_60, k_500, k_10000, pk_mul, nI_add, nI_e0, nI_ee, nI_leI, nI_ltI, xbool0, xbool1, xbn0, xbn1, xb_0, xb_1, reduceIte, one0, Option.isNone_none, ne_eq, not_true_eq_false, not_false_eq_true, if_true, if_false, ite_not, Bool.true_and, Bool.and_true, Option.bind_none, Option.isNone_none, bq_69_5, bq_69_10, (ho_c H.2.1).1, e, bq_69_15]
  | some c =>
    obtain ⟨hc, rfl, -⟩ := ix_some (by omega) hx
    rw [← H4.1] at hc
    have hc6 : c < 6 := by have := H4.1; omega
    obtain ⟨cp, ak, cs, as, vs, h1, h2, h3, h4, h5, h6⟩ := H4.2 c hc
    have eu := c_isUp (T0 := T0) (MI := MI) (X := X) (h := 0) (o2 := none) H.2.1 H.2.2.1 (by decide)
    simp (decide := true) (disch := omega) only [Option.bind_some, xasI, xasL, xasR, xin_t, cond_true, cond_false, nI_clamp, k_0, k_1, k_2, k_3, k_4, k_5, k_6, k_40, k_60, k_500, k_10000, pk_mul, nI_add, nI_e0, nI_ee, nI_leI, nI_ltI, xbool0, xbool1, xbn0, xbn1, xb_0, xb_1, reduceIte, one0, Option.isNone_none, ne_eq, not_true_eq_false, not_false_eq_true, if_true, if_false, ite_not, Bool.true_and, Bool.and_true, List.getElem?_eq_getElem hc, Option.isNone_some, bq_69_5, bq_69_16, (ho_c H.2.1).1, eu]
    by_cases e : q.1 0 0 = 0
    · rw [if_pos e, tI_f (fun h => h e), bq_69_21, if_pos rfl]
      obtain ⟨M', e', h', s⟩ := P_ref (MI := MI) (i := 4) (x' := 40) (y' := 3600) (x := Int32.ofInt (-4)) HE B (by decide) rfl
      refine ⟨M', ow, ?_, h', s⟩
      simp (decide := true) (disch := omega) only [Option.bind_some, xasI, xasL, xasR, xin_t, cond_true, cond_false, nI_clamp, k_0, k_1, k_2, k_3, k_4, k_5, k_6, k_40, k_60, k_500, k_10000, pk_mul, nI_add, nI_e0, nI_ee, nI_leI, nI_ltI, xbool0, xbool1, xbn0, xbn1, xb_0, xb_1, reduceIte, one0, Option.isNone_none, ne_eq, not_true_eq_false, not_false_eq_true, if_true, if_false, ite_not, Bool.true_and, Bool.and_true, bq_69_24, (ho_c H.2.1).1, e', bq_69_30]
    · rw [if_neg e, tI_t e, bq_69_21, if_neg one0]
      obtain ⟨M', ow', cs', e1, e2, e3, e4⟩ := c_tell (T0 := T0) (MI := MI) (o2 := none) (o3 := none) hc6 B.2.2.2.1 K.2.1 H.2.1 H.2.2.2.1 h1
      have s2 : stp (fun t => t.1 ≠ 500 + c) 40 3600 ow M ow' M' := stp_w e4 (fun t ht e => ht e.1) (Nat.le_refl _) (Nat.le_refl _)
      have hlen := bkF_len q (nu q 12 0) 0
      have h40 := B.2.2.2.1.2
      refine ⟨M', ow', ?_, ⟨ad, fh, fp, cl, ll, dl, aa, pk, Rep_ca H B (Nat.le_refl _) hc s2 ⟨cp, ak, cs', as, bkF q 0 (nu q 12 0), e2, e3, cpV_learn K c, by omega, ?_, h6⟩ (fun k i hk => ?_) (fun k c' i a b => glearn_x K a b) (fun k i => by rw [glearn_2])⟩, ext_of s2 (fun t ht => by omega) (Nat.le_refl _) (Nat.le_refl _)⟩
      · simp (decide := true) (disch := omega) only [Option.bind_some, xasI, xasL, xasR, xin_t, cond_true, cond_false, nI_clamp, k_0, k_1, k_2, k_3, k_4, k_5, k_6, k_40, k_60, k_500, k_10000, pk_mul, nI_add, nI_e0, nI_ee, nI_leI, nI_ltI, xbool0, xbool1, xbn0, xbn1, xb_0, xb_1, reduceIte, one0, Option.isNone_none, ne_eq, not_true_eq_false, not_false_eq_true, if_true, if_false, ite_not, Bool.true_and, Bool.and_true, bq_69_31, (ho_c H.2.1).1, e1]
        rw [bq_69_36, Option.bind_some, gR e2.1 1 rfl, Option.bind_some, Option.bind_some, (oL_c e2.2.2.2.1).1, cond_true, oL_size e2.2.2.2.1]
        simp (decide := true) (disch := omega) only [Option.bind_some, xasI, xasL, xasR, xin_t, cond_true, cond_false, nI_clamp, k_0, k_1, k_2, k_3, k_4, k_5, k_6, k_40, k_60, k_500, k_10000, pk_mul, nI_add, nI_e0, nI_ee, nI_leI, nI_ltI, xbool0, xbool1, xbn0, xbn1, xb_0, xb_1, reduceIte, one0, Option.isNone_none, ne_eq, not_true_eq_false, not_false_eq_true, if_true, if_false, ite_not, Bool.true_and, Bool.and_true]
        rw [bq_69_43, e3.1, gthere_F q _ (fun r => by rw [glearn_ne c (by decide)])]
      · unfold nu
        rw [glearn_ne c (by decide)]
        exact h5
      · rw [glearn_ne c hk]
theorem xdef1 : xdef 1 = [vi 0, vr none, vr none] := by decide
theorem newO_f {M : xM} {ow : xOw} {c : Nat} {o : Nat × Nat} (P : Nat × Nat → Prop) (ho : bnd ow M → o.1 < 10000 + (M.1 + 1)) {y : Nat} (hy : xnf c ≤ y) : stp P 1 y ow M (va_up ow M.1 o) (xnewO M c) := stp_w (newO_stp P ow M c o ho) (fun _ h => h) (Nat.le_refl _) hy
/-- a new list: its object alone -/
theorem oL_new {T0 MI g pt : Nat} {M : xM} {ow : xOw} (hT : T0 < M.1) (oT : (ow T0).1 = 8) (aT : ∃ f, M.2.2 T0 = .inl (3, 0, .inr (.inr f))) (hg : bnd ow M → g < 10000 + (M.1 + 1)) : ∃ M', xZ T0 MI 203 0 [some (vr (some M.1))] [] (xnewO M 13) = some (none, M') ∧ oList T0 M' (va_up ow M.1 (g, pt)) g pt M.1 [] ∧ (∀ P, stp P 1 3 ow M (va_up ow M.1 (g, pt)) M') ∧ M'.1 = M.1 + 1 := by
  obtain ⟨f, aT⟩ := aT
  have h1 : (xnewO M 13).2.2 M.1 = .inr (13, [vi 0, vr none, vi 0]) := by rw [newO_at, xdef13]
  refine ⟨_, c_newList h1, ⟨T0, 0, 0, f, xset_at _ _ _, ?_, ⟨by simp, by omega⟩, fun j hj => absurd hj (by simp), va_up_self _ _ _, ⟨by show M.1 < M.1 + 1; omega, by show T0 < M.1 + 1; omega⟩, Or.inl ⟨rfl, rfl, ?_⟩⟩, fun P => ?_, rfl⟩
  · rw [xset_ne _ _ (by omega), newO_ne (by omega)]; exact aT
  · rw [va_up_ne _ _ (by omega)]; exact oT
  · have x13 : xnf 13 = 3 := by decide
    refine ⟨Nat.le_succ _, ⟨Nat.le_refl _, fun h => bnd_new h (hg h)⟩, ?_, fun b hb => ⟨va_up_ne _ _ (by omega), fun _ => ?_⟩⟩
    · show M.2.1 + xnf 13 ≤ M.2.1 + 3
      omega
    · rw [xset_ne _ _ (by omega), newO_ne (by omega)]
def tOK (T0 : Nat) (M : xM) (ow : xOw) : Prop := T0 < M.1 ∧ (ow T0).1 = 8 ∧ ∃ f, M.2.2 T0 = .inl (3, 0, .inr (.inr f))
theorem tOK_f {T0 x y : Nat} {P : Nat × Nat → Prop} {M M' : xM} {ow ow' : xOw} (H : tOK T0 M ow) (hs : stp P x y ow M ow' M') (h8 : ∀ t : Nat × Nat, t.1 = 8 → P t) : tOK T0 M' ow' := by
  obtain ⟨h1, h2, f, h3⟩ := H
  refine ⟨by have := hs.1; omega, by rw [(hs.2.2.2 _ h1).1]; exact h2, f, ?_⟩
  rw [(hs.2.2.2 _ h1).2 (h8 _ h2)]
  exact h3
/-- new Caller(c) -/
theorem c_newCa {T0 MI c : Nat} {M : xM} {ow : xOw} (hT : tOK T0 M ow) (hc : c < 6) : ∃ M' ow', xZ T0 MI 2 0 [some (vr (some M.1)), some (vi (nI c))] [] (xnewO M 1) = some (none, M') ∧ (∃ cp ak, oCa T0 M' ow' c M.1 cp ak [] []) ∧ ∀ P, stp P 3 9 ow M ow' M' := by
  have b0 : ∀ (M : xM) (ow : xOw), bnd ow M → 500 + c < 10000 + (M.1 + 1) := fun M ow _ => by omega
  have s0 : ∀ P, stp P 1 3 ow M (va_up ow M.1 (500 + c, 0)) (xnewO M 1) := fun P => newO_f P (b0 M ow) (by decide)
  have t0 := tOK_f hT (s0 (fun _ => True)) (fun _ _ => trivial)
  have c0 : (xnewO M 1).2.2 M.1 = .inr (1, [vi 0, vr none, vr none]) := by rw [newO_at, xdef1]
  obtain ⟨M1, e1, l1, s1, n1⟩ := oL_new (T0 := T0) (MI := MI) (g := 500 + c) (pt := 1) t0.1 t0.2.1 t0.2.2 (b0 _ _)
  have hM : (xnewO M 1).1 = M.1 + 1 := rfl
  have c1 : M1.2.2 M.1 = .inr (1, [vi 0, vr none, vr none]) := by
    rw [((s1 (fun _ => True)).2.2.2 M.1 (by rw [hM]; omega)).2 trivial]; exact c0
  have d1 := pV c1 1 rfl (vr (some (xnewO M 1).1))
  have oM : va_up (va_up ow M.1 (500 + c, 0)) (xnewO M 1).1 (500 + c, 1) M.1 = (500 + c, 0) := by
    rw [va_up_ne _ _ (by rw [hM]; omega), va_up_self]
  have s1' : stp (fun t => t ≠ (500 + c, 0)) 0 0 (va_up (va_up ow M.1 (500 + c, 0)) (xnewO M 1).1 (500 + c, 1)) M1 (va_up (va_up ow M.1 (500 + c, 0)) (xnewO M 1).1 (500 + c, 1)) (xset M1 M.1 (.inr (1, ([vi 0, vr none, vr none] : List xV).set 1 (vr (some (xnewO M 1).1))))) := stp_set (by rw [oM]; exact fun h => h rfl)
  have t1 := tOK_f (tOK_f t0 (s1 (fun _ => True)) (fun _ _ => trivial)) s1' (fun t ht e => by rw [e] at ht; exact absurd ht (by simp only; omega))
  have l1' := oList_f l1 s1' (fun t ht e => by rw [e] at ht; exact absurd ht.2.1 (by simp)) (fun t ht e => by rw [e] at ht; exact absurd ht (by simp only; omega))
  obtain ⟨M2, e2, l2, s2, n2⟩ := oL_new (T0 := T0) (MI := MI) (g := 500 + c) (pt := 3) t1.1 t1.2.1 t1.2.2 (b0 _ _)
  have n1' : M1.1 = M.1 + 2 := by rw [n1, hM]
  have c2 : M2.2.2 M.1 = .inr (1, [vi 0, vr (some (xnewO M 1).1), vr none]) := by
    rw [((s2 (fun _ => True)).2.2.2 M.1 (by show M.1 < M1.1; omega)).2 trivial, xset_at]
    rfl
  have oM2 : ∀ o, va_up (va_up (va_up ow M.1 (500 + c, 0)) (xnewO M 1).1 (500 + c, 1)) M1.1 o M.1 = (500 + c, 0) := fun o => by
    rw [va_up_ne _ _ (by omega)]; exact oM
  have s3 : ∀ z, stp (fun t => t ≠ (500 + c, 0)) 0 0 (va_up (va_up (va_up ow M.1 (500 + c, 0)) (xnewO M 1).1 (500 + c, 1)) M1.1 (500 + c, 3)) M2 (va_up (va_up (va_up ow M.1 (500 + c, 0)) (xnewO M 1).1 (500 + c, 1)) M1.1 (500 + c, 3)) (xset M2 M.1 z) := fun z => stp_set (by rw [oM2]; exact fun h => h rfl)
  have p0 : ∀ t : Nat × Nat, inP (500 + c) 1 (1 + 1) t → t ≠ (500 + c, 0) := fun t ht e => by rw [e] at ht; exact absurd ht.2.1 (by simp)
  have p1 : ∀ t : Nat × Nat, inP (500 + c) 3 (3 + 1) t → t ≠ (500 + c, 0) := fun t ht e => by rw [e] at ht; exact absurd ht.2.1 (by simp)
  have p8 : ∀ t : Nat × Nat, t.1 = 8 → t ≠ (500 + c, 0) := fun t ht e => by rw [e] at ht; exact absurd ht (by simp only; omega)
  have l1'' := oList_f (oList_f l1' (s2 (fun _ => True)) (fun _ _ => trivial) (fun _ _ => trivial)) (s3 (.inr (1, [vi (nI c), vr (some (xnewO M 1).1), vr (some M1.1)]))) p0 p8
  have l2'' := oList_f l2 (s3 (.inr (1, [vi (nI c), vr (some (xnewO M 1).1), vr (some M1.1)]))) p1 p8
  refine ⟨xset M2 M.1 (.inr (1, [vi (nI c), vr (some (xnewO M 1).1), vr (some M1.1)])), va_up (va_up (va_up ow M.1 (500 + c, 0)) (xnewO M 1).1 (500 + c, 1)) M1.1 (500 + c, 3), ?_, ⟨(xnewO M 1).1, M1.1, xset_at _ _ _, oM2 _, by show M.1 < M2.1; rw [n2]; show M.1 < M1.1 + 1; omega, l1'', l2''⟩, fun P => ?_⟩
  · rw [bq_2_0, e1]
    simp (decide := true) (disch := omega) only [Option.bind_some, xasI, xasL, xasR, xin_t, cond_true, cond_false, nI_clamp, k_0, k_1, k_2, k_3, k_4, k_5, k_6, k_40, k_60, k_500, k_10000, pk_mul, nI_add, nI_e0, nI_ee, nI_leI, nI_ltI, xbool0, xbool1, xbn0, xbn1, xb_0, xb_1, reduceIte, one0, Option.isNone_none, ne_eq, not_true_eq_false, not_false_eq_true, if_true, if_false, ite_not, Bool.true_and, Bool.and_true]
    rw [bq_2_12, d1, Option.bind_some]
    show ((xZ T0 MI 203 0 [some (vr (some M1.1))] [] (xnewO (xset M1 M.1 _) 13)).bind _) = _
    rw [show xZ T0 MI 203 0 [some (vr (some M1.1))] [] (xnewO (xset M1 M.1 (.inr (1, ([vi 0, vr none, vr none] : List xV).set 1 (vr (some (xnewO M 1).1))))) 13) = some (none, M2) from e2]
    simp (decide := true) (disch := omega) only [Option.bind_some, xasI, xasL, xasR, xin_t, cond_true, cond_false, nI_clamp, k_0, k_1, k_2, k_3, k_4, k_5, k_6, k_40, k_60, k_500, k_10000, pk_mul, nI_add, nI_e0, nI_ee, nI_leI, nI_ltI, xbool0, xbool1, xbn0, xbn1, xb_0, xb_1, reduceIte, one0, Option.isNone_none, ne_eq, not_true_eq_false, not_false_eq_true, if_true, if_false, ite_not, Bool.true_and, Bool.and_true]
    rw [bq_2_23, pV c2 2 rfl, Option.bind_some, pV (xset_at _ _ _) 0 rfl, Option.bind_some, xset_xset]
    rfl
  · obtain ⟨a1, ⟨a2, a3⟩, a4, a5⟩ := s0 P
    obtain ⟨b1, ⟨b2, b3⟩, b4, b5⟩ := s1 P
    obtain ⟨d1, ⟨d2, d3⟩, d4, d5⟩ := s2 P
    have q1 : (xset M1 M.1 (.inr (1, ([vi 0, vr none, vr none] : List xV).set 1 (vr (some (xnewO M 1).1))))).1 = M1.1 := rfl
    have q2 : (xset M1 M.1 (.inr (1, ([vi 0, vr none, vr none] : List xV).set 1 (vr (some (xnewO M 1).1))))).2.1 = M1.2.1 := rfl
    rw [q1] at d1 d2
    rw [q2] at d4
    refine ⟨by show M.1 ≤ M2.1; omega, ⟨by show M2.1 ≤ M.1 + 3; omega, fun h => d3 (b3 (a3 h))⟩, by show M2.2.1 ≤ M.2.1 + 9; omega, fun b hb => ?_⟩
    have g1 := a5 b hb
    have g2 := b5 b (by omega)
    have g3 := d5 b (by show b < M1.1; omega)
    refine ⟨g3.1.trans (g2.1.trans g1.1), fun hP => ?_⟩
    rw [xset_ne _ _ (by omega), g3.2 (by rw [g2.1, g1.1]; exact hP), xset_ne _ _ (by omega), g2.2 (by rw [g1.1]; exact hP), g1.2 hP]
