/-! plan -/
def gwN (q : xrho) (L : xLs) (h : Nat) : Nat → Nat → Nat
  | _, 0 => 0
  | r, m + 1 => (if gown q (40 * h + r) then (L.1 (40 * h + r)).length else 0) + gwN q L h (r + 1) m
theorem gwN_le {q : xrho} {L : xLs} {h : Nat} (hX : LX q L) (hh : h < 6) : ∀ m r, r + m ≤ 40 → gwN q L h r m ≤ 60 * m
  | 0, _, _ => Nat.le_refl _
  | m + 1, r, hr => by
    have ih := gwN_le hX hh m (r + 1) (by omega)
    have h1 := (hX.1.1 (40 * h + r) (by omega)).2.1
    show (if gown q (40 * h + r) then (L.1 (40 * h + r)).length else 0) + gwN q L h (r + 1) m ≤ _
    split <;> omega
theorem gweigh_N {q : xrho} {L : xLs} {h : Nat} (hX : LX q L) (hh : h < 6) : ∀ m r a, r + m ≤ 40 → gweigh q h r m (nI a) = nI (a + gwN q L h r m)
  | 0, _, _, _ => rfl
  | m + 1, r, a, hr => by
    have h1 := (hX.1.1 (40 * h + r) (by omega)).1
    show gweigh q h (r + 1) m (nI a + if gown q (40 * h + r) then q.1 19 (40 * h + r) else nI 0) = nI (a + ((if gown q (40 * h + r) then (L.1 (40 * h + r)).length else 0) + gwN q L h (r + 1) m))
    by_cases g : gown q (40 * h + r)
    · rw [if_pos g, if_pos g, h1, nI_add, gweigh_N hX hh m (r + 1) _ (by omega), Nat.add_assoc]
    · rw [if_neg g, if_neg g, nI_add, gweigh_N hX hh m (r + 1) _ (by omega), Nat.add_assoc]
theorem wgt_N {q : xrho} {L : xLs} {h : Nat} (hX : LX q L) (hh : h < 6) (h12 : nu q 12 0 ≤ 40) : ∃ W, W ≤ 2400 ∧ wgt q h = nI W := by
  have := gwN_le hX hh (nu q 12 0) 0 (by omega)
  refine ⟨gwN q L h 0 (nu q 12 0), by omega, ?_⟩
  unfold wgt
  rw [gweigh_N hX hh _ _ _ (by omega), Nat.zero_add]
/-- the rows of a range that is free at a host -/
noncomputable def frN (q : xrho) (L : xLs) (a r : Nat) : Nat := if q.1 2 r = 0 ∨ tI (gfree q r (nu q 6 r)) = 0 ∨ nu q 6 r ≠ a then 0 else (L.1 (40 * a + r)).length
theorem c_frows {T0 MI X n a r : Nat} {ad : Nat → Nat} {fh fp : Nat → Option Nat} {cl ll dl : List Nat} {aa : Nat → Nat} {pk : Nat → Option Nat} {q : xrho} {L : xLs} {M : xM} {ow : xOw} {o3 o4 : Option xV} (H : Rep T0 X n ad fh fp cl ll dl aa pk q L M ow) (K : bkOK q) (ha : a < 6) (hr : r < 40) : xZ T0 MI 99 0 [some (vr (some X)), some (vi (nI a)), some (vi (nI r)), o3, o4] [] M = some (some (vi (nI (frN q L a r))), M) := by
  have hX := (ho_c H.2.1).1
  have h6 := K.2.2.2.2.2.1 r hr
  have h65 := h6.2
  have pe : xZ T0 MI 89 0 [some (vr (some X)), some (vi (nI r))] [] M = some (some (vr (fp r)), M) := by
    rw [c_pageOf H.2.1, ix_i hr (by decide)]
    rfl
  rw [bq_99_0, hX, cond_true, pe]
  unfold frN
  have hp := H.2.2.2.1 r hr
  cases hf : fp r with
  | none =>
    rw [hf] at hp
    rw [if_pos (Or.inl (show q.1 2 r = 0 from hp))]
    simp (decide := true) (disch := omega) only [Option.bind_some, xasI, xasL, xasR, xin_t, cond_true, cond_false, nI_clamp, k_0, k_1, k_2, k_3, k_4, k_5, k_6, k_40, k_60, k_500, k_10000, pk_mul, nI_add, nI_e0, nI_ee, nI_leI, nI_ltI, xbool0, xbool1, xbn0, xbn1, xb_0, xb_1, reduceIte, one0, Option.isNone_none, ne_eq, not_true_eq_false, not_false_eq_true, if_true, if_false, ite_not, Bool.true_and, Bool.and_true, Option.isNone_none, bq_99_5, bq_99_29]
  | some b =>
    rw [hf] at hp
    have fr := x_isFree (T0 := T0) (MI := MI) (o2 := none) (o3 := none) H.2.1 H.2.2.1 hp hr h6
    obtain ⟨h2, s, gi, ta, uw, ⟨p1, -, -⟩, sp, -⟩ := hp
    obtain ⟨-, -, -, -, -, g4⟩ := sp_g sp
    rw [h6.1] at g4
    simp (decide := true) (disch := omega) only [Option.bind_some, xasI, xasL, xasR, xin_t, cond_true, cond_false, nI_clamp, k_0, k_1, k_2, k_3, k_4, k_5, k_6, k_40, k_60, k_500, k_10000, pk_mul, nI_add, nI_e0, nI_ee, nI_leI, nI_ltI, xbool0, xbool1, xbn0, xbn1, xb_0, xb_1, reduceIte, one0, Option.isNone_none, ne_eq, not_true_eq_false, not_false_eq_true, if_true, if_false, ite_not, Bool.true_and, Bool.and_true, Option.isNone_some, bq_99_5]
    rw [bq_99_10, Option.bind_some, gR p1 0 rfl, Option.bind_some, Option.bind_some, g4, Option.bind_some]
    by_cases e : nu q 6 r = a
    · rw [if_pos (show nI (nu q 6 r) = nI a by rw [e]), bq_99_21, hX, cond_true, fr]
      simp (decide := true) (disch := omega) only [Option.bind_some, xasI, xasL, xasR, xin_t, cond_true, cond_false, nI_clamp, k_0, k_1, k_2, k_3, k_4, k_5, k_6, k_40, k_60, k_500, k_10000, pk_mul, nI_add, nI_e0, nI_ee, nI_leI, nI_ltI, xbool0, xbool1, xbn0, xbn1, xb_0, xb_1, reduceIte, one0, Option.isNone_none, ne_eq, not_true_eq_false, not_false_eq_true, if_true, if_false, ite_not, Bool.true_and, Bool.and_true]
      by_cases hg : gfree q r (nu q 6 r)
      · rw [tI_t hg, bq_99_26, if_neg one0, bq_99_31, hX, cond_true, bq_92_0, hX, cond_true, c_hostOf H.2.1, ix_i ha (by decide), Option.bind_some]
        obtain ⟨hb, f, f1, ⟨ar, gv, gs, oh, -⟩, f3⟩ := H.2.2.1 a ha
        have hN := f3 r hr
        have h15 : q.1 15 (40 * a + r) = Int32.ofInt 1 := by rw [← e]; exact hg.2.2
        cases hfr : f r with
        | none =>
          rw [hfr] at hN
          rw [hN.1] at h15
          exact absurd h15 (by decide)
        | some z =>
          rw [hfr] at hN
          obtain ⟨ra, ka, sa, hh, sn, R, K', S, hA, ti⟩ := hN
          have hR := (ti.2.2.1 (by rw [h15]; decide)).2.1
          have ch := c_hold1 (T0 := T0) (MI := MI) oh hr hfr
          simp (decide := true) (disch := omega) only [Option.bind_some, xasI, xasL, xasR, xin_t, cond_true, cond_false, nI_clamp, k_0, k_1, k_2, k_3, k_4, k_5, k_6, k_40, k_60, k_500, k_10000, pk_mul, nI_add, nI_e0, nI_ee, nI_leI, nI_ltI, xbool0, xbool1, xbn0, xbn1, xb_0, xb_1, reduceIte, one0, Option.isNone_none, ne_eq, not_true_eq_false, not_false_eq_true, if_true, if_false, ite_not, Bool.true_and, Bool.and_true, f1, Option.isNone_some, bq_92_5, bq_92_14, gC oh.1, ch, bq_92_19, bq_99_37, bq_99_48, hA_4 hA, oR_sz hA.2.2.2.1, bq_99_56]
          rw [if_neg (fun h => h.elim (bk0 h2) (fun h => h.elim id (fun h => h e))), hR]
      · rw [tI_f hg, bq_99_26, if_pos rfl, bq_99_29, if_pos (Or.inr (Or.inl rfl))]
        rfl
    · rw [if_neg (show ¬ nI (nu q 6 r) = nI a by rw [nI_ee (by omega) (by omega)]; exact e), bq_99_29, if_pos (Or.inr (Or.inr e))]
      rfl
theorem c_planM {T0 MI X n : Nat} {ad : Nat → Nat} {fh fp : Nat → Option Nat} {cl ll dl : List Nat} {aa : Nat → Nat} {pk : Nat → Option Nat} {q : xrho} {L : xLs} {M : xM} {ow : xOw} {o7 o8 o9 : Option xV} (H : Rep T0 X n ad fh fp cl ll dl aa pk q L M ow) (hX : LX q L) (hz : stz q) (h12 : nu q 12 0 ≤ 40) : ∀ m h, h + m = 6 → ∀ a b o6, a < h → b < h → ∃ o5' o6', xZ T0 MI 82 20 [some (vr (some X)), some (vi (nI a)), some (vi (nI b)), some (vi (wgt q a)), some (vi (wgt q b)), some (vi (nI h)), o6, o7, o8, o9] [] M = xZ T0 MI 82 71 [some (vr (some X)), some (vi (nI (plM (wgt q) h m a b).1)), some (vi (nI (plM (wgt q) h m a b).2)), some (vi (wgt q (plM (wgt q) h m a b).1)), some (vi (wgt q (plM (wgt q) h m a b).2)), o5', o6', o7, o8, o9] [] M ∧ (plM (wgt q) h m a b).1 < 6 ∧ (plM (wgt q) h m a b).2 < 6 := by
  intro m
  induction m with
  | zero =>
    intro h hh a b o6 ha hb
    have : h = 6 := by omega
    subst this
    refine ⟨some (vi (nI 6)), o6, ?_, ha, hb⟩
    rw [bq_82_20, k_6, if_pos (by decide)]
    rfl
  | succ m ih =>
    intro h hh a b o6 ha hb
    have h6 : h < 6 := by omega
    obtain ⟨c, f, f1, ⟨ar, gv, gs, oh, -⟩, f3⟩ := H.2.2.1 h h6
    have cr := c_countR (T0 := T0) (MI := MI) (o1 := none) (o2 := none) (o3 := none) oh h6 f3 hX hz h12
    rw [bq_82_20, k_6, if_neg (by rw [nI_leI (by omega) (by omega)]; omega), bq_82_27, (ho_c H.2.1).2.1, Option.bind_some, Option.bind_some, ho_h H.2.1 h6, Option.bind_some, f1, Option.bind_some, gC oh.1, cond_true, cr]
    simp (decide := true) (disch := omega) only [Option.bind_some, xasI, xasL, xasR, xin_t, cond_true, cond_false, nI_clamp, k_0, k_1, k_2, k_3, k_4, k_5, k_6, k_40, k_60, k_500, k_10000, pk_mul, nI_add, nI_e0, nI_ee, nI_leI, nI_ltI, xbool0, xbool1, xbn0, xbn1, xb_0, xb_1, reduceIte, one0, Option.isNone_none, ne_eq, not_true_eq_false, not_false_eq_true, if_true, if_false, ite_not, Bool.true_and, Bool.and_true]
    rw [bq_82_37]
    show ∃ o5' o6', _ = xZ T0 MI 82 71 [some (vr (some X)), some (vi (nI (plM (wgt q) (h + 1) m (if wgt q h ≤ wgt q a then a else h) (if wgt q b ≤ wgt q h then b else h)).1)), some (vi (nI (plM (wgt q) (h + 1) m (if wgt q h ≤ wgt q a then a else h) (if wgt q b ≤ wgt q h then b else h)).2)), some (vi (wgt q (plM (wgt q) (h + 1) m (if wgt q h ≤ wgt q a then a else h) (if wgt q b ≤ wgt q h then b else h)).1)), some (vi (wgt q (plM (wgt q) (h + 1) m (if wgt q h ≤ wgt q a then a else h) (if wgt q b ≤ wgt q h then b else h)).2)), o5', o6', o7, o8, o9] [] M ∧ (plM (wgt q) (h + 1) m (if wgt q h ≤ wgt q a then a else h) (if wgt q b ≤ wgt q h then b else h)).1 < 6 ∧ (plM (wgt q) (h + 1) m (if wgt q h ≤ wgt q a then a else h) (if wgt q b ≤ wgt q h then b else h)).2 < 6
    have ha' : (if wgt q h ≤ wgt q a then a else h) < h + 1 := by split <;> omega
    have hb' : (if wgt q b ≤ wgt q h then b else h) < h + 1 := by split <;> omega
    obtain ⟨o5', o6', e1, e2⟩ := ih (h + 1) (by omega) _ _ (some (vi (wgt q h))) ha' hb'
    refine ⟨o5', o6', ?_, e2⟩
    rw [← e1]
    by_cases c1 : wgt q h ≤ wgt q a
    · rw [if_pos c1, if_pos c1, bq_82_51]
      by_cases c2 : wgt q b ≤ wgt q h
      · rw [if_pos c2, if_pos c2, bq_82_65, nI_s]
      · rw [if_neg c2, if_neg c2, bq_82_58, bq_82_65, nI_s]
    · rw [if_neg c1, if_neg c1, bq_82_45, bq_82_51]
      by_cases c2 : wgt q b ≤ wgt q h
      · rw [if_pos c2, if_pos c2, bq_82_65, nI_s]
      · rw [if_neg c2, if_neg c2, bq_82_58, bq_82_65, nI_s]
theorem toInt_sub {a b : Nat} (ha : a ≤ 5000) (hb : b ≤ 5000) : (nI a - nI b).toInt = (a : Int) - b := by
  rw [Int32.toInt_sub, nI_toInt (by omega), nI_toInt (by omega)]
  apply Int.bmod_eq_of_le <;> omega
theorem frN_le {q : xrho} {L : xLs} {a r : Nat} (hX : LX q L) (ha : a < 6) (hr : r < 40) : frN q L a r ≤ 60 := by
  unfold frN
  split
  · omega
  · exact (hX.1.1 (40 * a + r) (by omega)).2.1
def plO (b : Nat) (o : Option Nat) : Int32 := match o with
  | none => Int32.ofInt (-9)
  | some r => nI (10 * r + b)
theorem c_planB {T0 MI X n a b : Nat} {ad : Nat → Nat} {fh fp : Nat → Option Nat} {cl ll dl : List Nat} {aa : Nat → Nat} {pk : Nat → Option Nat} {q : xrho} {L : xLs} {M : xM} {ow : xOw} (H : Rep T0 X n ad fh fp cl ll dl aa pk q L M ow) (K : bkOK q) (hX : LX q L) (h12 : isN q 12 0 40) (ha : a < 6) (hb : b < 6) : ∀ m r, r + m = nu q 12 0 → ∀ (o : Option Nat) (c : Int32) (o8 o9 : Option xV), (a = b → c = wgt q a) → xZ T0 MI 82 81 [some (vr (some X)), some (vi (nI a)), some (vi (nI b)), some (vi (wgt q a)), some (vi (wgt q b)), some (vi (plO b o)), some (vi c), some (vi (nI r)), o8, o9] [] M = some (some (vi (plO b (plB q L a b r m o c))), M) := by
  have b12 := h12.2
  have mk := (ho_c H.2.1).2.2.2.2.2.2.2.1
  intro m
  induction m with
  | zero =>
    intro r hr o c o8 o9 hc
    rw [bq_82_81, mk, Option.bind_some, h12.1, if_pos (by rw [nI_leI (by omega) (by omega)]; omega), bq_82_144]
    rfl
  | succ m ih =>
    intro r hr o c o8 o9 hc
    have hr40 : r < 40 := by omega
    have n60 := frN_le hX ha hr40
    rw [bq_82_81, mk, Option.bind_some, h12.1, if_neg (by rw [nI_leI (by omega) (by omega)]; omega), bq_82_90, (ho_c H.2.1).1, cond_true, c_frows H K ha hr40]
    simp (decide := true) (disch := omega) only [Option.bind_some, xasI, xasL, xasR, xin_t, cond_true, cond_false, nI_clamp, k_0, k_1, k_2, k_3, k_4, k_5, k_6, k_40, k_60, k_500, k_10000, pk_mul, nI_add, nI_e0, nI_ee, nI_leI, nI_ltI, xbool0, xbool1, xbn0, xbn1, xb_0, xb_1, reduceIte, one0, Option.isNone_none, ne_eq, not_true_eq_false, not_false_eq_true, if_true, if_false, ite_not, Bool.true_and, Bool.and_true]
    rw [bq_82_97]
    unfold plB
    by_cases hskip : q.1 2 r = 0 ∨ tI (gfree q r (nu q 6 r)) = 0 ∨ nu q 6 r ≠ a
    · have hn : frN q L a r = 0 := by unfold frN; rw [if_pos hskip]
      rw [hn, if_pos (show nI 0 ≤ 0 by decide), bq_82_138, nI_s, if_pos (show q.1 2 r = 0 ∨ tI (gfree q r (nu q 6 r)) = 0 ∨ nu q 6 r ≠ a ∨ a = b ∨ (L.1 (40 * a + r)).length = 0 ∨ ¬ plA q L a b r < c from hskip.elim Or.inl (fun h => h.elim (fun h => Or.inr (Or.inl h)) (fun h => Or.inr (Or.inr (Or.inl h)))))]
      exact ih (r + 1) (by omega) o c _ _ hc
    · have hn : frN q L a r = (L.1 (40 * a + r)).length := by unfold frN; rw [if_neg hskip]
      rw [hn] at n60 ⊢
      have e1 : ¬ q.1 2 r = 0 := fun h => hskip (Or.inl h)
      have e2 : ¬ tI (gfree q r (nu q 6 r)) = 0 := fun h => hskip (Or.inr (Or.inl h))
      have e3 : ¬ nu q 6 r ≠ a := fun h => hskip (Or.inr (Or.inr h))
      by_cases e4 : (L.1 (40 * a + r)).length = 0
      · rw [e4, if_pos (show nI 0 ≤ 0 by decide), bq_82_138, nI_s, if_pos (show q.1 2 r = 0 ∨ tI (gfree q r (nu q 6 r)) = 0 ∨ nu q 6 r ≠ a ∨ a = b ∨ 0 = 0 ∨ ¬ plA q L a b r < c from Or.inr (Or.inr (Or.inr (Or.inr (Or.inl rfl)))))]
        exact ih (r + 1) (by omega) o c _ _ hc
      · rw [if_neg (show ¬ nI (L.1 (40 * a + r)).length ≤ 0 by
          intro h
          have h2 : nI (L.1 (40 * a + r)).length ≤ nI 0 := h
          rw [nI_leI (by omega) (by decide)] at h2
          omega), bq_82_118]
        have eP : (if wgt q a - nI (L.1 (40 * a + r)).length < wgt q b + nI (L.1 (40 * a + r)).length then wgt q b + nI (L.1 (40 * a + r)).length else wgt q a - nI (L.1 (40 * a + r)).length) = plA q L a b r := rfl
        rw [eP]
        by_cases e5 : c ≤ plA q L a b r
        · rw [if_pos e5, bq_82_138, nI_s, if_pos (show q.1 2 r = 0 ∨ tI (gfree q r (nu q 6 r)) = 0 ∨ nu q 6 r ≠ a ∨ a = b ∨ (L.1 (40 * a + r)).length = 0 ∨ ¬ plA q L a b r < c from Or.inr (Or.inr (Or.inr (Or.inr (Or.inr (Int32.not_lt.mpr e5))))))]
          exact ih (r + 1) (by omega) o c _ _ hc
        · have e6 : ¬ a = b := by
            intro e
            subst e
            obtain ⟨W, hW, eW⟩ := wgt_N hX ha (by omega)
            apply e5
            rw [hc rfl]
            unfold plA
            rw [eW, nI_add, if_pos (by
              rw [Int32.lt_iff_toInt_lt, toInt_sub (by omega) (by omega), nI_toInt (by omega)]
              omega), nI_leI (by omega) (by omega)]
            omega
          rw [if_neg e5, bq_82_125, bq_82_138, nI_s, if_neg (fun h => h.elim e1 (fun h => h.elim e2 (fun h => h.elim e3 (fun h => h.elim e6 (fun h => h.elim e4 (fun h => h (Int32.not_le.mp e5)))))))]
          have e10 : (Int32.ofInt 10 * nI r + nI b : Int32) = plO b (some r) := by
            show Int32.ofInt 10 * nI r + nI b = nI (10 * r + b)
            rw [show Int32.ofInt 10 = nI 10 from rfl, pk_mul, nI_add]
          rw [e10]
          exact ih (r + 1) (by omega) (some r) _ _ _ (fun h => absurd h e6)
theorem P_plan {T0 MI X n : Nat} {q : xrho} {L : xLs} {M : xM} {ow : xOw} {o1 o2 o3 o4 o5 o6 o7 o8 o9 : Option xV} (H : RepE T0 X n q L M ow) (B : bds q) (K : bkOK q) (hX : LX q L) (hz : stz q) : xZ T0 MI 82 0 [some (vr (some X)), o1, o2, o3, o4, o5, o6, o7, o8, o9] [] M = some (some (vi (gplan q L)), M) := by
  obtain ⟨ad, fh, fp, cl, ll, dl, aa, pk, H⟩ := H
  have h12 := B.2.2.2.1
  obtain ⟨c, f, f1, ⟨ar, gv, gs, oh, -⟩, f3⟩ := H.2.2.1 0 (by decide)
  have cr := c_countR (T0 := T0) (MI := MI) (o1 := none) (o2 := none) (o3 := none) oh (by decide) f3 hX hz h12.2
  rw [bq_82_0, (ho_c H.2.1).2.1, Option.bind_some, Option.bind_some, k_0, ho_h H.2.1 (by decide), Option.bind_some, f1, Option.bind_some, gC oh.1, cond_true, cr]
  simp (decide := true) (disch := omega) only [Option.bind_some, xasI, xasL, xasR, xin_t, cond_true, cond_false, nI_clamp, k_0, k_1, k_2, k_3, k_4, k_5, k_6, k_40, k_60, k_500, k_10000, pk_mul, nI_add, nI_e0, nI_ee, nI_leI, nI_ltI, xbool0, xbool1, xbn0, xbn1, xb_0, xb_1, reduceIte, one0, Option.isNone_none, ne_eq, not_true_eq_false, not_false_eq_true, if_true, if_false, ite_not, Bool.true_and, Bool.and_true]
  rw [bq_82_13, k_1]
  obtain ⟨o5', o6', e1, ha, hb⟩ := c_planM (T0 := T0) (MI := MI) (o7 := o7) (o8 := o8) (o9 := o9) H hX hz h12.2 5 1 rfl 0 0 o6 (by decide) (by decide)
  rw [e1, bq_82_71, k_0]
  have e2 := c_planB (T0 := T0) (MI := MI) H K hX h12 ha hb (nu q 12 0) 0 (by omega) none (wgt q (plM (wgt q) 1 5 0 0).1) o8 o9 (fun _ => rfl)
  rw [show Int32.ofInt (-9) = plO (plM (wgt q) 1 5 0 0).2 none from rfl, e2]
  unfold gplan plO
  rfl
